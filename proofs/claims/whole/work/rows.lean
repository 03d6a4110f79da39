section
-- ===== PART A: goes FIRST, ahead of the names: the tables' words, and 'selects' of the private methods out of them =====
/-- a private method of a class that the tables say can be made, by its rows of tables_1 -/
def lw_okq (q : MethodName × Nat) : Prop := (q.1.cls ≠ "java/lang/invoke/MethodHandle" ∧ q.1.cls ≠ "java/lang/invoke/VarHandle") ∧ Cond.instantiable q.1.cls q.2 ∈ tables_1 ∧ Cond.privateMethod q.1 ∈ tables_1 ∧ Cond.instanceMethod q.1 ∈ tables_1
theorem lw_p0 : lw_okq (⟨"ZigzagPieces", "readText", "()I"⟩, 7) := ⟨⟨by decide +kernel, by decide +kernel⟩, List.mem_of_getElem? (i := 18) (by decide +kernel), List.mem_of_getElem? (i := 198) (by decide +kernel), List.mem_of_getElem? (i := 199) (by decide +kernel)⟩
theorem lw_p1 : lw_okq (⟨"ZigzagPieces$Text", "letterAt", "(I)I"⟩, 2) := ⟨⟨by decide +kernel, by decide +kernel⟩, List.mem_of_getElem? (i := 26) (by decide +kernel), List.mem_of_getElem? (i := 221) (by decide +kernel), List.mem_of_getElem? (i := 222) (by decide +kernel)⟩
theorem lw_p2 : lw_okq (⟨"ZigzagPieces$Net", "nearOf", "(I)I"⟩, 3) := ⟨⟨by decide +kernel, by decide +kernel⟩, List.mem_of_getElem? (i := 78) (by decide +kernel), List.mem_of_getElem? (i := 273) (by decide +kernel), List.mem_of_getElem? (i := 274) (by decide +kernel)⟩
theorem lw_p3 : lw_okq (⟨"ZigzagPieces", "layTrial", "()V"⟩, 7) := ⟨⟨by decide +kernel, by decide +kernel⟩, List.mem_of_getElem? (i := 18) (by decide +kernel), List.mem_of_getElem? (i := 292) (by decide +kernel), List.mem_of_getElem? (i := 293) (by decide +kernel)⟩
theorem lw_p4 : lw_okq (⟨"ZigzagPieces", "tellAnew", "()V"⟩, 7) := ⟨⟨by decide +kernel, by decide +kernel⟩, List.mem_of_getElem? (i := 18) (by decide +kernel), List.mem_of_getElem? (i := 310) (by decide +kernel), List.mem_of_getElem? (i := 311) (by decide +kernel)⟩
theorem lw_p5 : lw_okq (⟨"ZigzagPieces$Story", "step", "(II)V"⟩, 3) := ⟨⟨by decide +kernel, by decide +kernel⟩, List.mem_of_getElem? (i := 72) (by decide +kernel), List.mem_of_getElem? (i := 330) (by decide +kernel), List.mem_of_getElem? (i := 331) (by decide +kernel)⟩
theorem lw_p6 : lw_okq (⟨"ZigzagPieces$Bars", "compare", "(III)I"⟩, 4) := ⟨⟨by decide +kernel, by decide +kernel⟩, List.mem_of_getElem? (i := 113) (by decide +kernel), List.mem_of_getElem? (i := 377) (by decide +kernel), List.mem_of_getElem? (i := 378) (by decide +kernel)⟩
theorem lw_p7 : lw_okq (⟨"ZigzagPieces$Kinship", "setSince", "(III)V"⟩, 4) := ⟨⟨by decide +kernel, by decide +kernel⟩, List.mem_of_getElem? (i := 94) (by decide +kernel), List.mem_of_getElem? (i := 396) (by decide +kernel), List.mem_of_getElem? (i := 397) (by decide +kernel)⟩
theorem lw_p8 : lw_okq (⟨"ZigzagPieces$Kinship", "lowerRoots", "(II)V"⟩, 4) := ⟨⟨by decide +kernel, by decide +kernel⟩, List.mem_of_getElem? (i := 94) (by decide +kernel), List.mem_of_getElem? (i := 409) (by decide +kernel), List.mem_of_getElem? (i := 410) (by decide +kernel)⟩
theorem lw_p9 : lw_okq (⟨"ZigzagPieces$Kinship", "setSinceOfAll", "(III)V"⟩, 4) := ⟨⟨by decide +kernel, by decide +kernel⟩, List.mem_of_getElem? (i := 94) (by decide +kernel), List.mem_of_getElem? (i := 413) (by decide +kernel), List.mem_of_getElem? (i := 414) (by decide +kernel)⟩
theorem lw_p10 : lw_okq (⟨"ZigzagPieces$Story", "addOpenBars", "()V"⟩, 3) := ⟨⟨by decide +kernel, by decide +kernel⟩, List.mem_of_getElem? (i := 72) (by decide +kernel), List.mem_of_getElem? (i := 421) (by decide +kernel), List.mem_of_getElem? (i := 422) (by decide +kernel)⟩
theorem lw_p11 : lw_okq (⟨"ZigzagPieces$Shelf", "loseOldest", "()V"⟩, 2) := ⟨⟨by decide +kernel, by decide +kernel⟩, List.mem_of_getElem? (i := 53) (by decide +kernel), List.mem_of_getElem? (i := 479) (by decide +kernel), List.mem_of_getElem? (i := 480) (by decide +kernel)⟩
theorem lw_p12 : lw_okq (⟨"ZigzagPieces", "tryExchange", "(I)Z"⟩, 7) := ⟨⟨by decide +kernel, by decide +kernel⟩, List.mem_of_getElem? (i := 18) (by decide +kernel), List.mem_of_getElem? (i := 500) (by decide +kernel), List.mem_of_getElem? (i := 501) (by decide +kernel)⟩
theorem lw_p13 : lw_okq (⟨"ZigzagPieces", "addEdgesGoing", "()V"⟩, 7) := ⟨⟨by decide +kernel, by decide +kernel⟩, List.mem_of_getElem? (i := 18) (by decide +kernel), List.mem_of_getElem? (i := 537) (by decide +kernel), List.mem_of_getElem? (i := 538) (by decide +kernel)⟩
theorem lw_p14 : lw_okq (⟨"ZigzagPieces", "addPointsGoing", "()V"⟩, 7) := ⟨⟨by decide +kernel, by decide +kernel⟩, List.mem_of_getElem? (i := 18) (by decide +kernel), List.mem_of_getElem? (i := 542) (by decide +kernel), List.mem_of_getElem? (i := 543) (by decide +kernel)⟩
theorem lw_p15 : lw_okq (⟨"ZigzagPieces$Bars", "lastOf", "(II)I"⟩, 4) := ⟨⟨by decide +kernel, by decide +kernel⟩, List.mem_of_getElem? (i := 113) (by decide +kernel), List.mem_of_getElem? (i := 624) (by decide +kernel), List.mem_of_getElem? (i := 625) (by decide +kernel)⟩
def lw_privs_1 : List (MethodName × Nat) := [(⟨"ZigzagPieces", "readText", "()I"⟩, 7), (⟨"ZigzagPieces$Text", "letterAt", "(I)I"⟩, 2), (⟨"ZigzagPieces$Net", "nearOf", "(I)I"⟩, 3), (⟨"ZigzagPieces", "layTrial", "()V"⟩, 7), (⟨"ZigzagPieces", "tellAnew", "()V"⟩, 7), (⟨"ZigzagPieces$Story", "step", "(II)V"⟩, 3), (⟨"ZigzagPieces$Bars", "compare", "(III)I"⟩, 4), (⟨"ZigzagPieces$Kinship", "setSince", "(III)V"⟩, 4), (⟨"ZigzagPieces$Kinship", "lowerRoots", "(II)V"⟩, 4), (⟨"ZigzagPieces$Kinship", "setSinceOfAll", "(III)V"⟩, 4), (⟨"ZigzagPieces$Story", "addOpenBars", "()V"⟩, 3), (⟨"ZigzagPieces$Shelf", "loseOldest", "()V"⟩, 2), (⟨"ZigzagPieces", "tryExchange", "(I)Z"⟩, 7), (⟨"ZigzagPieces", "addEdgesGoing", "()V"⟩, 7), (⟨"ZigzagPieces", "addPointsGoing", "()V"⟩, 7), (⟨"ZigzagPieces$Bars", "lastOf", "(II)I"⟩, 4)]
theorem lw_r1 : ∀ q ∈ lw_privs_1, lw_okq q := List.forall_mem_cons.mpr ⟨lw_p0, List.forall_mem_cons.mpr ⟨lw_p1, List.forall_mem_cons.mpr ⟨lw_p2, List.forall_mem_cons.mpr ⟨lw_p3, List.forall_mem_cons.mpr ⟨lw_p4, List.forall_mem_cons.mpr ⟨lw_p5, List.forall_mem_cons.mpr ⟨lw_p6, List.forall_mem_cons.mpr ⟨lw_p7, List.forall_mem_cons.mpr ⟨lw_p8, List.forall_mem_cons.mpr ⟨lw_p9, List.forall_mem_cons.mpr ⟨lw_p10, List.forall_mem_cons.mpr ⟨lw_p11, List.forall_mem_cons.mpr ⟨lw_p12, List.forall_mem_cons.mpr ⟨lw_p13, List.forall_mem_cons.mpr ⟨lw_p14, List.forall_mem_cons.mpr ⟨lw_p15, fun _ h => absurd h List.not_mem_nil⟩⟩⟩⟩⟩⟩⟩⟩⟩⟩⟩⟩⟩⟩⟩⟩
theorem lw_p16 : lw_okq (⟨"ZigzagPiecesModel", "reads", "()I"⟩, 22) := ⟨⟨by decide +kernel, by decide +kernel⟩, List.mem_of_getElem? (i := 670) (by decide +kernel), List.mem_of_getElem? (i := 758) (by decide +kernel), List.mem_of_getElem? (i := 759) (by decide +kernel)⟩
theorem lw_p17 : lw_okq (⟨"ZigzagPiecesModel", "begins", "()V"⟩, 22) := ⟨⟨by decide +kernel, by decide +kernel⟩, List.mem_of_getElem? (i := 670) (by decide +kernel), List.mem_of_getElem? (i := 762) (by decide +kernel), List.mem_of_getElem? (i := 763) (by decide +kernel)⟩
theorem lw_p18 : lw_okq (⟨"ZigzagPiecesModel", "item", "()I"⟩, 22) := ⟨⟨by decide +kernel, by decide +kernel⟩, List.mem_of_getElem? (i := 670) (by decide +kernel), List.mem_of_getElem? (i := 766) (by decide +kernel), List.mem_of_getElem? (i := 767) (by decide +kernel)⟩
theorem lw_p19 : lw_okq (⟨"ZigzagPiecesModel", "figureAt", "(I)I"⟩, 22) := ⟨⟨by decide +kernel, by decide +kernel⟩, List.mem_of_getElem? (i := 670) (by decide +kernel), List.mem_of_getElem? (i := 770) (by decide +kernel), List.mem_of_getElem? (i := 771) (by decide +kernel)⟩
theorem lw_p20 : lw_okq (⟨"ZigzagPiecesModel", "may", "(I)Z"⟩, 22) := ⟨⟨by decide +kernel, by decide +kernel⟩, List.mem_of_getElem? (i := 670) (by decide +kernel), List.mem_of_getElem? (i := 777) (by decide +kernel), List.mem_of_getElem? (i := 778) (by decide +kernel)⟩
theorem lw_p21 : lw_okq (⟨"ZigzagPiecesModel", "does", "(II)V"⟩, 22) := ⟨⟨by decide +kernel, by decide +kernel⟩, List.mem_of_getElem? (i := 670) (by decide +kernel), List.mem_of_getElem? (i := 793) (by decide +kernel), List.mem_of_getElem? (i := 794) (by decide +kernel)⟩
theorem lw_p22 : lw_okq (⟨"ZigzagPiecesModel", "comes", "(II)V"⟩, 22) := ⟨⟨by decide +kernel, by decide +kernel⟩, List.mem_of_getElem? (i := 670) (by decide +kernel), List.mem_of_getElem? (i := 797) (by decide +kernel), List.mem_of_getElem? (i := 798) (by decide +kernel)⟩
theorem lw_p23 : lw_okq (⟨"ZigzagPiecesModel", "freePiece", "()I"⟩, 22) := ⟨⟨by decide +kernel, by decide +kernel⟩, List.mem_of_getElem? (i := 670) (by decide +kernel), List.mem_of_getElem? (i := 801) (by decide +kernel), List.mem_of_getElem? (i := 802) (by decide +kernel)⟩
theorem lw_p24 : lw_okq (⟨"ZigzagPiecesModel", "makesKin", "(III)V"⟩, 22) := ⟨⟨by decide +kernel, by decide +kernel⟩, List.mem_of_getElem? (i := 670) (by decide +kernel), List.mem_of_getElem? (i := 805) (by decide +kernel), List.mem_of_getElem? (i := 806) (by decide +kernel)⟩
theorem lw_p25 : lw_okq (⟨"ZigzagPiecesModel", "goes", "(II)V"⟩, 22) := ⟨⟨by decide +kernel, by decide +kernel⟩, List.mem_of_getElem? (i := 670) (by decide +kernel), List.mem_of_getElem? (i := 809) (by decide +kernel), List.mem_of_getElem? (i := 810) (by decide +kernel)⟩
theorem lw_p26 : lw_okq (⟨"ZigzagPiecesModel", "kinOf", "(II)I"⟩, 22) := ⟨⟨by decide +kernel, by decide +kernel⟩, List.mem_of_getElem? (i := 670) (by decide +kernel), List.mem_of_getElem? (i := 813) (by decide +kernel), List.mem_of_getElem? (i := 814) (by decide +kernel)⟩
theorem lw_p27 : lw_okq (⟨"ZigzagPiecesModel", "ends", "(II)V"⟩, 22) := ⟨⟨by decide +kernel, by decide +kernel⟩, List.mem_of_getElem? (i := 670) (by decide +kernel), List.mem_of_getElem? (i := 817) (by decide +kernel), List.mem_of_getElem? (i := 818) (by decide +kernel)⟩
theorem lw_p28 : lw_okq (⟨"ZigzagPiecesModel", "joins", "(III)V"⟩, 22) := ⟨⟨by decide +kernel, by decide +kernel⟩, List.mem_of_getElem? (i := 670) (by decide +kernel), List.mem_of_getElem? (i := 821) (by decide +kernel), List.mem_of_getElem? (i := 822) (by decide +kernel)⟩
theorem lw_p29 : lw_okq (⟨"ZigzagPiecesModel", "bindsNear", "(III)V"⟩, 22) := ⟨⟨by decide +kernel, by decide +kernel⟩, List.mem_of_getElem? (i := 670) (by decide +kernel), List.mem_of_getElem? (i := 825) (by decide +kernel), List.mem_of_getElem? (i := 826) (by decide +kernel)⟩
theorem lw_p30 : lw_okq (⟨"ZigzagPiecesModel", "parts", "(III)V"⟩, 22) := ⟨⟨by decide +kernel, by decide +kernel⟩, List.mem_of_getElem? (i := 670) (by decide +kernel), List.mem_of_getElem? (i := 829) (by decide +kernel), List.mem_of_getElem? (i := 830) (by decide +kernel)⟩
theorem lw_p31 : lw_okq (⟨"ZigzagPiecesModel", "reach", "(I)I"⟩, 22) := ⟨⟨by decide +kernel, by decide +kernel⟩, List.mem_of_getElem? (i := 670) (by decide +kernel), List.mem_of_getElem? (i := 833) (by decide +kernel), List.mem_of_getElem? (i := 834) (by decide +kernel)⟩
def lw_privs_2 : List (MethodName × Nat) := [(⟨"ZigzagPiecesModel", "reads", "()I"⟩, 22), (⟨"ZigzagPiecesModel", "begins", "()V"⟩, 22), (⟨"ZigzagPiecesModel", "item", "()I"⟩, 22), (⟨"ZigzagPiecesModel", "figureAt", "(I)I"⟩, 22), (⟨"ZigzagPiecesModel", "may", "(I)Z"⟩, 22), (⟨"ZigzagPiecesModel", "does", "(II)V"⟩, 22), (⟨"ZigzagPiecesModel", "comes", "(II)V"⟩, 22), (⟨"ZigzagPiecesModel", "freePiece", "()I"⟩, 22), (⟨"ZigzagPiecesModel", "makesKin", "(III)V"⟩, 22), (⟨"ZigzagPiecesModel", "goes", "(II)V"⟩, 22), (⟨"ZigzagPiecesModel", "kinOf", "(II)I"⟩, 22), (⟨"ZigzagPiecesModel", "ends", "(II)V"⟩, 22), (⟨"ZigzagPiecesModel", "joins", "(III)V"⟩, 22), (⟨"ZigzagPiecesModel", "bindsNear", "(III)V"⟩, 22), (⟨"ZigzagPiecesModel", "parts", "(III)V"⟩, 22), (⟨"ZigzagPiecesModel", "reach", "(I)I"⟩, 22)]
theorem lw_r2 : ∀ q ∈ lw_privs_2, lw_okq q := List.forall_mem_cons.mpr ⟨lw_p16, List.forall_mem_cons.mpr ⟨lw_p17, List.forall_mem_cons.mpr ⟨lw_p18, List.forall_mem_cons.mpr ⟨lw_p19, List.forall_mem_cons.mpr ⟨lw_p20, List.forall_mem_cons.mpr ⟨lw_p21, List.forall_mem_cons.mpr ⟨lw_p22, List.forall_mem_cons.mpr ⟨lw_p23, List.forall_mem_cons.mpr ⟨lw_p24, List.forall_mem_cons.mpr ⟨lw_p25, List.forall_mem_cons.mpr ⟨lw_p26, List.forall_mem_cons.mpr ⟨lw_p27, List.forall_mem_cons.mpr ⟨lw_p28, List.forall_mem_cons.mpr ⟨lw_p29, List.forall_mem_cons.mpr ⟨lw_p30, List.forall_mem_cons.mpr ⟨lw_p31, fun _ h => absurd h List.not_mem_nil⟩⟩⟩⟩⟩⟩⟩⟩⟩⟩⟩⟩⟩⟩⟩⟩
theorem lw_p32 : lw_okq (⟨"ZigzagPiecesModel", "runs", "(I)Z"⟩, 22) := ⟨⟨by decide +kernel, by decide +kernel⟩, List.mem_of_getElem? (i := 670) (by decide +kernel), List.mem_of_getElem? (i := 845) (by decide +kernel), List.mem_of_getElem? (i := 846) (by decide +kernel)⟩
theorem lw_p33 : lw_okq (⟨"ZigzagPiecesModel", "notes", "()V"⟩, 22) := ⟨⟨by decide +kernel, by decide +kernel⟩, List.mem_of_getElem? (i := 670) (by decide +kernel), List.mem_of_getElem? (i := 849) (by decide +kernel), List.mem_of_getElem? (i := 850) (by decide +kernel)⟩
theorem lw_p34 : lw_okq (⟨"ZigzagPiecesModel", "runsAll", "()Z"⟩, 22) := ⟨⟨by decide +kernel, by decide +kernel⟩, List.mem_of_getElem? (i := 670) (by decide +kernel), List.mem_of_getElem? (i := 861) (by decide +kernel), List.mem_of_getElem? (i := 862) (by decide +kernel)⟩
theorem lw_p35 : lw_okq (⟨"ZigzagPiecesModel", "lowestOf", "(I)I"⟩, 22) := ⟨⟨by decide +kernel, by decide +kernel⟩, List.mem_of_getElem? (i := 670) (by decide +kernel), List.mem_of_getElem? (i := 865) (by decide +kernel), List.mem_of_getElem? (i := 866) (by decide +kernel)⟩
theorem lw_p36 : lw_okq (⟨"ZigzagPiecesModel", "sets", "()V"⟩, 22) := ⟨⟨by decide +kernel, by decide +kernel⟩, List.mem_of_getElem? (i := 670) (by decide +kernel), List.mem_of_getElem? (i := 869) (by decide +kernel), List.mem_of_getElem? (i := 870) (by decide +kernel)⟩
theorem lw_p37 : lw_okq (⟨"ZigzagPiecesModel", "swaps", "(I)V"⟩, 22) := ⟨⟨by decide +kernel, by decide +kernel⟩, List.mem_of_getElem? (i := 670) (by decide +kernel), List.mem_of_getElem? (i := 873) (by decide +kernel), List.mem_of_getElem? (i := 874) (by decide +kernel)⟩
theorem lw_p38 : lw_okq (⟨"ZigzagPiecesModel", "others", "()I"⟩, 22) := ⟨⟨by decide +kernel, by decide +kernel⟩, List.mem_of_getElem? (i := 670) (by decide +kernel), List.mem_of_getElem? (i := 877) (by decide +kernel), List.mem_of_getElem? (i := 878) (by decide +kernel)⟩
theorem lw_p39 : lw_okq (⟨"ZigzagPiecesModel", "edges", "()I"⟩, 22) := ⟨⟨by decide +kernel, by decide +kernel⟩, List.mem_of_getElem? (i := 670) (by decide +kernel), List.mem_of_getElem? (i := 889) (by decide +kernel), List.mem_of_getElem? (i := 890) (by decide +kernel)⟩
theorem lw_p40 : lw_okq (⟨"ZigzagPiecesModel", "letterOf", "(II)I"⟩, 22) := ⟨⟨by decide +kernel, by decide +kernel⟩, List.mem_of_getElem? (i := 670) (by decide +kernel), List.mem_of_getElem? (i := 904) (by decide +kernel), List.mem_of_getElem? (i := 905) (by decide +kernel)⟩
theorem lw_p41 : lw_okq (⟨"ZigzagPiecesModel", "open", "()I"⟩, 22) := ⟨⟨by decide +kernel, by decide +kernel⟩, List.mem_of_getElem? (i := 670) (by decide +kernel), List.mem_of_getElem? (i := 932) (by decide +kernel), List.mem_of_getElem? (i := 933) (by decide +kernel)⟩
theorem lw_p42 : lw_okq (⟨"ZigzagPiecesModel", "lengthOf", "(I)I"⟩, 22) := ⟨⟨by decide +kernel, by decide +kernel⟩, List.mem_of_getElem? (i := 670) (by decide +kernel), List.mem_of_getElem? (i := 936) (by decide +kernel), List.mem_of_getElem? (i := 937) (by decide +kernel)⟩
theorem lw_p43 : lw_okq (⟨"ZigzagPiecesModel", "longest", "()I"⟩, 22) := ⟨⟨by decide +kernel, by decide +kernel⟩, List.mem_of_getElem? (i := 670) (by decide +kernel), List.mem_of_getElem? (i := 952) (by decide +kernel), List.mem_of_getElem? (i := 953) (by decide +kernel)⟩
theorem lw_p44 : lw_okq (⟨"ZigzagPiecesModel", "turnsOver", "()V"⟩, 22) := ⟨⟨by decide +kernel, by decide +kernel⟩, List.mem_of_getElem? (i := 670) (by decide +kernel), List.mem_of_getElem? (i := 964) (by decide +kernel), List.mem_of_getElem? (i := 965) (by decide +kernel)⟩
def lw_privs_3 : List (MethodName × Nat) := [(⟨"ZigzagPiecesModel", "runs", "(I)Z"⟩, 22), (⟨"ZigzagPiecesModel", "notes", "()V"⟩, 22), (⟨"ZigzagPiecesModel", "runsAll", "()Z"⟩, 22), (⟨"ZigzagPiecesModel", "lowestOf", "(I)I"⟩, 22), (⟨"ZigzagPiecesModel", "sets", "()V"⟩, 22), (⟨"ZigzagPiecesModel", "swaps", "(I)V"⟩, 22), (⟨"ZigzagPiecesModel", "others", "()I"⟩, 22), (⟨"ZigzagPiecesModel", "edges", "()I"⟩, 22), (⟨"ZigzagPiecesModel", "letterOf", "(II)I"⟩, 22), (⟨"ZigzagPiecesModel", "open", "()I"⟩, 22), (⟨"ZigzagPiecesModel", "lengthOf", "(I)I"⟩, 22), (⟨"ZigzagPiecesModel", "longest", "()I"⟩, 22), (⟨"ZigzagPiecesModel", "turnsOver", "()V"⟩, 22)]
theorem lw_r3 : ∀ q ∈ lw_privs_3, lw_okq q := List.forall_mem_cons.mpr ⟨lw_p32, List.forall_mem_cons.mpr ⟨lw_p33, List.forall_mem_cons.mpr ⟨lw_p34, List.forall_mem_cons.mpr ⟨lw_p35, List.forall_mem_cons.mpr ⟨lw_p36, List.forall_mem_cons.mpr ⟨lw_p37, List.forall_mem_cons.mpr ⟨lw_p38, List.forall_mem_cons.mpr ⟨lw_p39, List.forall_mem_cons.mpr ⟨lw_p40, List.forall_mem_cons.mpr ⟨lw_p41, List.forall_mem_cons.mpr ⟨lw_p42, List.forall_mem_cons.mpr ⟨lw_p43, List.forall_mem_cons.mpr ⟨lw_p44, fun _ h => absurd h List.not_mem_nil⟩⟩⟩⟩⟩⟩⟩⟩⟩⟩⟩⟩⟩
def lw_privs : List (MethodName × Nat) := lw_privs_1 ++ (lw_privs_2 ++ (lw_privs_3))
def lw_tbl : List Cond := k2_sels lw_privs ++ tables_1
theorem lw_privs_ok : ∀ q ∈ lw_privs, lw_okq q := by
  show ∀ q ∈ lw_privs_1 ++ (lw_privs_2 ++ (lw_privs_3)), lw_okq q
  exact List.forall_mem_append.mpr ⟨lw_r1, List.forall_mem_append.mpr ⟨lw_r2, lw_r3⟩⟩
-- ===== end of PART A; then your names; then what follows =====
/-- the words that stay true at every call -/
def Tb : List Cond := lw_tbl.filter goodWord
theorem Tb_good : ∀ w ∈ Tb, (w.onTables && w.keeps) = true ∨ ∃ ty, w = .arrayClass ty := fun w h => good_of_word (List.mem_filter.mp h).2
theorem Tb_at {w : Cond} (i : Nat) (h : lw_tbl[i]? = some w) (hg : goodWord w = true) : w ∈ Tb := List.mem_filter.mpr ⟨List.mem_of_getElem? h, hg⟩
/-- the words on nest mates' private members -/
def isN : Cond → Bool
  | .fieldLinkNest .. => true
  | .methodLinkNest .. => true
  | _ => false
def Nb : List Cond := lw_tbl.filter isN
theorem Nb_at {w : Cond} (i : Nat) (h : lw_tbl[i]? = some w) (hg : isN w = true) : w ∈ Nb := List.mem_filter.mpr ⟨List.mem_of_getElem? h, hg⟩
def mNw (U : State) : Prop := ∀ w ∈ Nb, va_Nw w U
theorem mNw.warm {s U : State} (hW : s.WarmedH U.vm) (h : mNw s) : mNw U := by
  intro w hw
  have h1 := h w hw
  have h2 := (List.mem_filter.mp hw).2
  cases w <;> first | (simp [isN] at h2; done) | exact va_Nw.warmF hW h1 | exact va_Nw.warmM hW h1
theorem mNw.same {u U : State} (hv : u.vm = U.vm) (h : mNw u) : mNw U := by
  intro w hw
  have h1 := h w hw
  have h2 := (List.mem_filter.mp hw).2
  cases w <;> first | (simp [isN] at h2; done) | exact va_Nw.same rfl hv h1
end
section
/-! An abstract machine over heaps whose references are places in a list. An entry of a method's table: the instruction, the next place, three numbers (target, class, callee ..) -/
abbrev mE : Type := Instr × Nat × Nat × Nat × Nat
abbrev mH : Type := List va_E
def mfetch : List (Nat × mE) → Nat → Option mE
  | [], _ => none
  | q :: t, pc => match Nat.beq q.1 pc with
    | true => some q.2
    | false => mfetch t pc
theorem mfetch_mem {C : List (Nat × mE)} {pc : Nat} {e : mE} (h : mfetch C pc = some e) : (pc, e) ∈ C := by
  induction C with
  | nil => cases h
  | cons q t ih =>
    unfold mfetch at h
    split at h
    next hq =>
      have e1 : q.1 = pc := Nat.eq_of_beq_eq_true hq
      have e2 : q.2 = e := Option.some.inj h
      rw [← e1, ← e2]
      exact List.mem_cons_self
    next => exact List.mem_cons_of_mem _ (ih h)
def m_p1 (st : List Value) (f : Int32 → List Value → Prop) : Prop := match st with
  | .int a :: r => f a r
  | _ => False
def m_p2 (st : List Value) (f : Int32 → Int32 → List Value → Prop) : Prop := match st with
  | .int b :: .int a :: r => f a b r
  | _ => False
def m_pR (st : List Value) (f : Nat → List Value → Prop) : Prop := match st with
  | .ref a :: r => f a r
  | _ => False
/-- a reference or null -/
def m_pA (st : List Value) (f : Value → List Value → Prop) : Prop := match st with
  | .ref a :: r => f (.ref a) r
  | .null :: r => f .null r
  | _ => False
def m_pV (st : List Value) (f : Value → List Value → Prop) : Prop := match st with
  | v :: r => v.category = 1 ∧ f v r
  | _ => False
def m_pVV (st : List Value) (f : Value → Value → List Value → Prop) : Prop := match st with
  | v :: w :: r => v.category = 1 ∧ w.category = 1 ∧ f v w r
  | _ => False
def m_lI (lv : List Value) (j : Nat) (f : Int32 → Prop) : Prop := match lv[j]? with
  | some (.int a) => f a
  | _ => False
def m_lA (lv : List Value) (j : Nat) (f : Value → Prop) : Prop := match lv[j]? with
  | some (.ref a) => f (.ref a)
  | some .null => f .null
  | _ => False
def m_gO (h : mH) (a : Nat) (f : Nat → List Value → Prop) : Prop := match h[a]? with
  | some (.inr o) => f o.1 o.2
  | _ => False
def m_gA (h : mH) (a t : Nat) (f : Nat → (Nat → Int32) → Prop) : Prop := match h[a]? with
  | some (.inl (u, n, .inl g)) => u = t ∧ f n g
  | _ => False
def m_gQ (h : mH) (a : Nat) (f : Nat → (Nat → Option Nat) → Prop) : Prop := match h[a]? with
  | some (.inl (u, n, .inr (.inr (.inr (.inr g))))) => u = 2 ∧ f n g
  | _ => False
/-- how long an array is (its kind is 0, 1 or 2) -/
def m_gL (h : mH) (a : Nat) (f : Nat → Prop) : Prop := match h[a]? with
  | some (.inl (u, n, _)) => u < 3 ∧ f n
  | _ => False
def m_sw (pc : Nat) (d lo hi : Int) (offs : Array Int) (a : Int32) : Nat := if a.toInt < lo ∨ hi < a.toInt then ((pc : Int) + d).toNat else ((pc : Int) + (offs[(a.toInt - lo).toNat]?).getD 0).toNat
def m_lk (pc : Nat) (d : Int) (ps : Array (Int × Int)) (a : Int32) : Nat := ((pc : Int) + Op.lookupswitch.offset ps.toList d a.toInt).toNat
def m_rt (rt : Option FieldType) (a : Int32) : Prop := match rt with
  | some .int => True
  | some .boolean => a = 0 ∨ a = 1
  | _ => False
def m_ra (rt : Option FieldType) : Prop := match rt with
  | some (.object _) => True
  | _ => False
abbrev mK : Type := Nat → List Value → List Value → mH → Prop
abbrev mC : Type := Nat → List Value → mH → (Option Value → mH → Prop) → Prop
def m_call (k : mK) (cal : mC) (nx x y : Nat) (lv st : List Value) (h : mH) : Prop :=
  y ≤ st.length ∧ ((st.drop y).map fun v => v.category).sum ≤ 8 ∧ ∃ P : Option Value → mH → Prop, cal x (st.take y).reverse h P ∧ ∀ r h', P r h' → k nx lv (r.toList ++ st.drop y) h'
/-- a static call; Math.max and Math.min are told by 1 and 2 -/
def m_stat (k : mK) (cal : mC) (nx x y z : Nat) (lv st : List Value) (h : mH) : Prop := match z with
  | 0 => m_call k cal nx x y lv st h
  | 1 => m_p2 st fun a b r => (r.map fun v => v.category).sum ≤ 8 ∧ k nx lv (.int (if a < b then b else a) :: r) h
  | _ => m_p2 st fun a b r => (r.map fun v => v.category).sum ≤ 8 ∧ k nx lv (.int (if b < a then b else a) :: r) h
def m_br (c : Prop) (a b : Prop) : Prop := (c → a) ∧ (¬ c → b)
def stp (k : mK) (cal : mC) (rt : Option FieldType) (Q : Option Value → mH → Prop) (pc : Nat) (e : mE) (lv st : List Value) (h : mH) : Prop :=
  match e.1 with
  | .aconst_null => k e.2.1 lv (.null :: st) h
  | .iconst n => k e.2.1 lv (.int (Int32.ofInt n) :: st) h
  | .bipush n => k e.2.1 lv (.int (Int8.ofInt n).toInt32 :: st) h
  | .sipush n => k e.2.1 lv (.int (Int16.ofInt n).toInt32 :: st) h
  | .ldc_w _ => k e.2.1 lv (.int (nI e.2.2.1) :: st) h
  | .iload j => m_lI lv j fun a => k e.2.1 lv (.int a :: st) h
  | .iload_n j => m_lI lv j.val fun a => k e.2.1 lv (.int a :: st) h
  | .aload j => m_lA lv j fun v => k e.2.1 lv (v :: st) h
  | .aload_n j => m_lA lv j.val fun v => k e.2.1 lv (v :: st) h
  | .istore j => m_p1 st fun a r => j < lv.length ∧ k e.2.1 (lv.set j (.int a)) r h
  | .istore_n j => m_p1 st fun a r => j.val < lv.length ∧ k e.2.1 (lv.set j.val (.int a)) r h
  | .astore j => m_pA st fun v r => j < lv.length ∧ k e.2.1 (lv.set j v) r h
  | .astore_n j => m_pA st fun v r => j.val < lv.length ∧ k e.2.1 (lv.set j.val v) r h
  | .iinc j n => m_lI lv j fun a => k e.2.1 (lv.set j (.int (a + Int32.ofInt n))) st h
  | .iadd => m_p2 st fun a b r => k e.2.1 lv (.int (a + b) :: r) h
  | .isub => m_p2 st fun a b r => k e.2.1 lv (.int (a - b) :: r) h
  | .imul => m_p2 st fun a b r => k e.2.1 lv (.int (a * b) :: r) h
  | .iand => m_p2 st fun a b r => k e.2.1 lv (.int (a &&& b) :: r) h
  | .ior => m_p2 st fun a b r => k e.2.1 lv (.int (a ||| b) :: r) h
  | .ixor => m_p2 st fun a b r => k e.2.1 lv (.int (a ^^^ b) :: r) h
  | .idiv => m_p2 st fun a b r => ¬ b = 0 ∧ k e.2.1 lv (.int (a / b) :: r) h
  | .irem => m_p2 st fun a b r => ¬ b = 0 ∧ k e.2.1 lv (.int (a - a / b * b) :: r) h
  | .ishl => m_p2 st fun a b r => k e.2.1 lv (.int (a <<< (b &&& 31)) :: r) h
  | .ishr => m_p2 st fun a b r => k e.2.1 lv (.int (a >>> (b &&& 31)) :: r) h
  | .iushr => m_p2 st fun a b r => k e.2.1 lv (.int (a.toUInt32 >>> (b.toUInt32 &&& Int32.toUInt32 31)).toInt32 :: r) h
  | .i2b => m_p1 st fun a r => k e.2.1 lv (.int a.toInt8.toInt32 :: r) h
  | .dup => m_pV st fun v r => k e.2.1 lv (v :: v :: r) h
  | .dup2 => m_pVV st fun v w r => k e.2.1 lv (v :: w :: v :: w :: r) h
  | .pop => m_pV st fun _ r => k e.2.1 lv r h
  | .getfield _ => m_pR st fun a r => m_gO h a fun ci fs => ci = e.2.2.1 ∧ ∃ v, fs[e.2.2.2.1]? = some v ∧ k e.2.1 lv (v :: r) h
  | .putfield _ => m_p1 st fun v r => m_pR r fun a r => m_gO h a fun ci fs => ci = e.2.2.1 ∧ e.2.2.2.1 < fs.length ∧ k e.2.1 lv r (h.set a (.inr (ci, fs.set e.2.2.2.1 (.int v))))
  | .iaload => m_p1 st fun i r => m_pR r fun a r => m_gA h a 0 fun n f => vp_in i n ∧ k e.2.1 lv (.int (f i.toNatClampNeg) :: r) h
  | .baload => m_p1 st fun i r => m_pR r fun a r => m_gA h a 1 fun n f => vp_in i n ∧ k e.2.1 lv (.int (f i.toNatClampNeg) :: r) h
  | .iastore => m_p1 st fun v r => m_p1 r fun i r => m_pR r fun a r => m_gA h a 0 fun n f => vp_in i n ∧ k e.2.1 lv r (h.set a (.inl (0, n, .inl (upd f i.toNatClampNeg v))))
  | .bastore => m_p1 st fun v r => m_p1 r fun i r => m_pR r fun a r => m_gA h a 1 fun n f => vp_in i n ∧ k e.2.1 lv r (h.set a (.inl (1, n, .inl (upd f i.toNatClampNeg (vp_nar .byte v)))))
  | .aaload => m_p1 st fun i r => m_pR r fun a r => m_gQ h a fun n g => vp_in i n ∧ k e.2.1 lv (va_rf (g i.toNatClampNeg) :: r) h
  | .aastore => m_pR st fun v r => m_p1 r fun i r => m_pR r fun a r => m_gQ h a fun n g => m_gO h v fun ci _ => ci = 3 ∧ vp_in i n ∧ k e.2.1 lv r (h.set a (.inl (2, n, .inr (.inr (.inr (.inr (va_up g i.toNatClampNeg (some v))))))))
  | .arraylength => m_pR st fun a r => m_gL h a fun n => k e.2.1 lv (.int (nI n) :: r) h
  | .goto _ => k e.2.2.1 lv st h
  | .ifCond .eq _ => m_p1 st fun a r => (a = 0 → k e.2.2.1 lv r h) ∧ (¬ a = 0 → k e.2.1 lv r h)
  | .ifCond .ne _ => m_p1 st fun a r => (¬ a = 0 → k e.2.2.1 lv r h) ∧ (a = 0 → k e.2.1 lv r h)
  | .ifCond .lt _ => m_p1 st fun a r => (a < 0 → k e.2.2.1 lv r h) ∧ (¬ a < 0 → k e.2.1 lv r h)
  | .ifCond .ge _ => m_p1 st fun a r => (0 ≤ a → k e.2.2.1 lv r h) ∧ (¬ 0 ≤ a → k e.2.1 lv r h)
  | .ifCond .gt _ => m_p1 st fun a r => (0 < a → k e.2.2.1 lv r h) ∧ (¬ 0 < a → k e.2.1 lv r h)
  | .ifCond .le _ => m_p1 st fun a r => (a ≤ 0 → k e.2.2.1 lv r h) ∧ (¬ a ≤ 0 → k e.2.1 lv r h)
  | .if_icmp .eq _ => m_p2 st fun a b r => (a = b → k e.2.2.1 lv r h) ∧ (¬ a = b → k e.2.1 lv r h)
  | .if_icmp .ne _ => m_p2 st fun a b r => (¬ a = b → k e.2.2.1 lv r h) ∧ (a = b → k e.2.1 lv r h)
  | .if_icmp .lt _ => m_p2 st fun a b r => (a < b → k e.2.2.1 lv r h) ∧ (¬ a < b → k e.2.1 lv r h)
  | .if_icmp .ge _ => m_p2 st fun a b r => (b ≤ a → k e.2.2.1 lv r h) ∧ (¬ b ≤ a → k e.2.1 lv r h)
  | .if_icmp .gt _ => m_p2 st fun a b r => (b < a → k e.2.2.1 lv r h) ∧ (¬ b < a → k e.2.1 lv r h)
  | .if_icmp .le _ => m_p2 st fun a b r => (a ≤ b → k e.2.2.1 lv r h) ∧ (¬ a ≤ b → k e.2.1 lv r h)
  | .ifnull _ => m_pA st fun v r => (v = .null → k e.2.2.1 lv r h) ∧ (¬ v = .null → k e.2.1 lv r h)
  | .ifnonnull _ => m_pA st fun v r => (¬ v = .null → k e.2.2.1 lv r h) ∧ (v = .null → k e.2.1 lv r h)
  | .tableswitch d lo hi offs => m_p1 st fun a r => k (m_sw pc d lo hi offs a) lv r h
  | .lookupswitch d ps => m_p1 st fun a r => k (m_lk pc d ps a) lv r h
  | .ireturn => m_p1 st fun a r => r = [] ∧ m_rt rt a ∧ Q (some (.int a)) h
  | .areturn => m_pA st fun v r => r = [] ∧ m_ra rt ∧ Q (some v) h
  | .return_ => st = [] ∧ rt = none ∧ Q none h
  | .invokestatic _ => m_stat k cal e.2.1 e.2.2.1 e.2.2.2.1 e.2.2.2.2 lv st h
  | .invokevirtual _ => (∃ (b : Nat) (As : List Value), (st.take e.2.2.2.1).reverse = .ref b :: As ∧ m_gO h b fun ci _ => ci = e.2.2.2.2) ∧ m_call k cal e.2.1 e.2.2.1 e.2.2.2.1 lv st h
  | _ => False
theorem m_p1_mono {st : List Value} {f g : Int32 → List Value → Prop} (h : ∀ a r, f a r → g a r) : m_p1 st f → m_p1 st g := by
  unfold m_p1; split
  · exact h _ _
  · exact id
theorem m_p2_mono {st : List Value} {f g : Int32 → Int32 → List Value → Prop} (h : ∀ a b r, f a b r → g a b r) : m_p2 st f → m_p2 st g := by
  unfold m_p2; split
  · exact h _ _ _
  · exact id
theorem m_pR_mono {st : List Value} {f g : Nat → List Value → Prop} (h : ∀ a r, f a r → g a r) : m_pR st f → m_pR st g := by
  unfold m_pR; split
  · exact h _ _
  · exact id
theorem m_pA_mono {st : List Value} {f g : Value → List Value → Prop} (h : ∀ a r, f a r → g a r) : m_pA st f → m_pA st g := by
  unfold m_pA; split
  · exact h _ _
  · exact h _ _
  · exact id
theorem m_pV_mono {st : List Value} {f g : Value → List Value → Prop} (h : ∀ a r, f a r → g a r) : m_pV st f → m_pV st g := by
  unfold m_pV; split
  · exact And.imp_right (h _ _)
  · exact id
theorem m_pVV_mono {st : List Value} {f g : Value → Value → List Value → Prop} (h : ∀ a b r, f a b r → g a b r) : m_pVV st f → m_pVV st g := by
  unfold m_pVV; split
  · exact And.imp_right (And.imp_right (h _ _ _))
  · exact id
theorem m_lI_mono {lv : List Value} {j : Nat} {f g : Int32 → Prop} (h : ∀ a, f a → g a) : m_lI lv j f → m_lI lv j g := by
  unfold m_lI; split
  · exact h _
  · exact id
theorem m_lA_mono {lv : List Value} {j : Nat} {f g : Value → Prop} (h : ∀ a, f a → g a) : m_lA lv j f → m_lA lv j g := by
  unfold m_lA; split
  · exact h _
  · exact h _
  · exact id
theorem m_gO_mono {hp : mH} {a : Nat} {f g : Nat → List Value → Prop} (h : ∀ c fs, f c fs → g c fs) : m_gO hp a f → m_gO hp a g := by
  unfold m_gO; split
  · exact h _ _
  · exact id
theorem m_gA_mono {hp : mH} {a t : Nat} {f g : Nat → (Nat → Int32) → Prop} (h : ∀ c fs, f c fs → g c fs) : m_gA hp a t f → m_gA hp a t g := by
  unfold m_gA; split
  · exact And.imp_right (h _ _)
  · exact id
theorem m_gQ_mono {hp : mH} {a : Nat} {f g : Nat → (Nat → Option Nat) → Prop} (h : ∀ c fs, f c fs → g c fs) : m_gQ hp a f → m_gQ hp a g := by
  unfold m_gQ; split
  · exact And.imp_right (h _ _)
  · exact id
theorem m_gL_mono {hp : mH} {a : Nat} {f g : Nat → Prop} (h : ∀ c, f c → g c) : m_gL hp a f → m_gL hp a g := by
  unfold m_gL; split
  · exact And.imp_right (h _)
  · exact id
theorem m_call_mono {k k' : mK} {cal : mC} {nx x y : Nat} {lv st : List Value} {h : mH} (hk : ∀ pc lv st h, k pc lv st h → k' pc lv st h) : m_call k cal nx x y lv st h → m_call k' cal nx x y lv st h :=
  fun ⟨h1, h2, P, h3, h4⟩ => ⟨h1, h2, P, h3, fun r h' q => hk _ _ _ _ (h4 r h' q)⟩
theorem m_stat_mono {k k' : mK} {cal : mC} {nx x y z : Nat} {lv st : List Value} {h : mH} (hk : ∀ pc lv st h, k pc lv st h → k' pc lv st h) : m_stat k cal nx x y z lv st h → m_stat k' cal nx x y z lv st h := by
  unfold m_stat
  split
  · exact m_call_mono hk
  · exact m_p2_mono fun _ _ _ => And.imp_right (hk _ _ _ _)
  · exact m_p2_mono fun _ _ _ => And.imp_right (hk _ _ _ _)
set_option maxHeartbeats 1000000 in
theorem stp_mono {k k' : mK} {cal : mC} {rt : Option FieldType} {Q : Option Value → mH → Prop} {pc : Nat} {e : mE} {lv st : List Value} {h : mH} (hk : ∀ pc lv st h, k pc lv st h → k' pc lv st h) : stp k cal rt Q pc e lv st h → stp k' cal rt Q pc e lv st h := by
  obtain ⟨i, nx, x, y, z⟩ := e
  cases i with
  | aconst_null => exact hk _ _ _ _
  | iconst n => exact hk _ _ _ _
  | bipush n => exact hk _ _ _ _
  | sipush n => exact hk _ _ _ _
  | ldc_w n => exact hk _ _ _ _
  | iload j => exact m_lI_mono fun _ => hk _ _ _ _
  | iload_n j => exact m_lI_mono fun _ => hk _ _ _ _
  | aload j => exact m_lA_mono (f := fun v => k nx lv (v :: st) h) (g := fun v => k' nx lv (v :: st) h) fun _ => hk _ _ _ _
  | aload_n j => exact m_lA_mono (f := fun v => k nx lv (v :: st) h) (g := fun v => k' nx lv (v :: st) h) fun _ => hk _ _ _ _
  | istore j => exact m_p1_mono fun _ _ => And.imp_right (hk _ _ _ _)
  | istore_n j => exact m_p1_mono fun _ _ => And.imp_right (hk _ _ _ _)
  | astore j => exact m_pA_mono (f := fun v r => j < lv.length ∧ k nx (lv.set j v) r h) (g := fun v r => j < lv.length ∧ k' nx (lv.set j v) r h) fun _ _ => And.imp_right (hk _ _ _ _)
  | astore_n j => exact m_pA_mono (f := fun v r => j.val < lv.length ∧ k nx (lv.set j.val v) r h) (g := fun v r => j.val < lv.length ∧ k' nx (lv.set j.val v) r h) fun _ _ => And.imp_right (hk _ _ _ _)
  | iinc j n => exact m_lI_mono fun _ => hk _ _ _ _
  | iadd => exact m_p2_mono fun _ _ _ => hk _ _ _ _
  | isub => exact m_p2_mono fun _ _ _ => hk _ _ _ _
  | imul => exact m_p2_mono fun _ _ _ => hk _ _ _ _
  | iand => exact m_p2_mono fun _ _ _ => hk _ _ _ _
  | ior => exact m_p2_mono fun _ _ _ => hk _ _ _ _
  | ixor => exact m_p2_mono fun _ _ _ => hk _ _ _ _
  | idiv => exact m_p2_mono fun _ _ _ => And.imp_right (hk _ _ _ _)
  | irem => exact m_p2_mono fun _ _ _ => And.imp_right (hk _ _ _ _)
  | ishl => exact m_p2_mono fun _ _ _ => hk _ _ _ _
  | ishr => exact m_p2_mono fun _ _ _ => hk _ _ _ _
  | iushr => exact m_p2_mono fun _ _ _ => hk _ _ _ _
  | i2b => exact m_p1_mono fun _ _ => hk _ _ _ _
  | dup => exact m_pV_mono fun _ _ => hk _ _ _ _
  | dup2 => exact m_pVV_mono fun _ _ _ => hk _ _ _ _
  | pop => exact m_pV_mono fun _ _ => hk _ _ _ _
  | getfield n => exact m_pR_mono fun _ _ => m_gO_mono fun _ _ => And.imp_right (fun ⟨v, h1, h2⟩ => ⟨v, h1, hk _ _ _ _ h2⟩)
  | putfield n => exact m_p1_mono fun _ _ => m_pR_mono fun _ _ => m_gO_mono fun _ _ => And.imp_right (And.imp_right (hk _ _ _ _))
  | iaload => exact m_p1_mono fun _ _ => m_pR_mono fun _ _ => m_gA_mono fun _ _ => And.imp_right (hk _ _ _ _)
  | baload => exact m_p1_mono fun _ _ => m_pR_mono fun _ _ => m_gA_mono fun _ _ => And.imp_right (hk _ _ _ _)
  | iastore => exact m_p1_mono fun _ _ => m_p1_mono fun _ _ => m_pR_mono fun _ _ => m_gA_mono fun _ _ => And.imp_right (hk _ _ _ _)
  | bastore => exact m_p1_mono fun _ _ => m_p1_mono fun _ _ => m_pR_mono fun _ _ => m_gA_mono fun _ _ => And.imp_right (hk _ _ _ _)
  | aaload => exact m_p1_mono fun _ _ => m_pR_mono fun _ _ => m_gQ_mono fun _ _ => And.imp_right (hk _ _ _ _)
  | aastore => exact m_pR_mono fun _ _ => m_p1_mono fun _ _ => m_pR_mono fun _ _ => m_gQ_mono fun _ _ => m_gO_mono fun _ _ => And.imp_right (And.imp_right (hk _ _ _ _))
  | arraylength => exact m_pR_mono fun _ _ => m_gL_mono fun _ => hk _ _ _ _
  | goto n => exact hk _ _ _ _
  | ifCond c n => cases c <;> exact m_p1_mono fun _ _ => And.imp (fun h q => hk _ _ _ _ (h q)) (fun h q => hk _ _ _ _ (h q))
  | if_icmp c n => cases c <;> exact m_p2_mono fun _ _ _ => And.imp (fun h q => hk _ _ _ _ (h q)) (fun h q => hk _ _ _ _ (h q))
  | ifnull n => exact m_pA_mono (f := fun v r => (v = .null → k x lv r h) ∧ (¬ v = .null → k nx lv r h)) (g := fun v r => (v = .null → k' x lv r h) ∧ (¬ v = .null → k' nx lv r h)) fun _ _ => And.imp (fun h q => hk _ _ _ _ (h q)) (fun h q => hk _ _ _ _ (h q))
  | ifnonnull n => exact m_pA_mono (f := fun v r => (¬ v = .null → k x lv r h) ∧ (v = .null → k nx lv r h)) (g := fun v r => (¬ v = .null → k' x lv r h) ∧ (v = .null → k' nx lv r h)) fun _ _ => And.imp (fun h q => hk _ _ _ _ (h q)) (fun h q => hk _ _ _ _ (h q))
  | tableswitch d lo hi offs => exact m_p1_mono fun _ _ => hk _ _ _ _
  | lookupswitch d ps => exact m_p1_mono fun _ _ => hk _ _ _ _
  | invokestatic n => exact m_stat_mono hk
  | invokevirtual n => exact And.imp_right (m_call_mono hk)
  | _ => exact id
/-- what a method's code does from a place on: the least predicate that is closed under its instructions -/
def WP (cal : mC) (C : List (Nat × mE)) (rt : Option FieldType) (Q : Option Value → mH → Prop) (pc : Nat) (lv st : List Value) (h : mH) : Prop :=
  ∀ X : mK, (∀ pc lv st h e, mfetch C pc = some e → stp X cal rt Q pc e lv st h → X pc lv st h) → X pc lv st h
theorem WP.in {cal : mC} {C : List (Nat × mE)} {rt : Option FieldType} {Q : Option Value → mH → Prop} {pc : Nat} {lv st : List Value} {h : mH} {e : mE} (hf : mfetch C pc = some e) (hs : stp (WP cal C rt Q) cal rt Q pc e lv st h) : WP cal C rt Q pc lv st h :=
  fun X hX => hX pc lv st h e hf (stp_mono (fun _ _ _ _ w => w X hX) hs)
/-- a method: its name, code, locals, what it gives, its table -/
abbrev mM : Type := MethodName × ByteArray × Nat × Option FieldType × List (Nat × mE)
def m_c1 (a : List Value) : Bool := a.all fun v => Nat.beq v.category 1
def Rn (P : List mM) : Nat → mC
  | 0, _, _, _, _ => False
  | d + 1, M, a, h, Q => match P[M]? with
    | some (_, _, mL, rt, C) => m_c1 a = true ∧ Nat.ble a.length mL = true ∧ WP (Rn P d) C rt Q 0 (a ++ List.replicate (mL - a.length) (.long 0)) [] h
    | none => False
theorem Rn.in {P : List mM} {d M : Nat} {a : List Value} {h : mH} {Q : Option Value → mH → Prop} {y : MethodName} {b : ByteArray} {mL : Nat} {rt : Option FieldType} {C : List (Nat × mE)} (hM : P[M]? = some (y, b, mL, rt, C)) (h1 : m_c1 a = true) (h2 : Nat.ble a.length mL = true) (hw : WP (Rn P d) C rt Q 0 (a ++ List.replicate (mL - a.length) (.long 0)) [] h) : Rn P (d + 1) M a h Q := by
  unfold Rn
  rw [hM]
  exact ⟨h1, h2, hw⟩
end
section
/-! the classes whose objects the worlds hold (printed by wip/whole/gen.py) -/
def RX0 : String := "ZigzagPieces$Bars"
def TX0 : u_T := fun k => match k with
  | 0 => ("ZigzagPieces$Bars", "begins", "[I", true)
  | 1 => ("ZigzagPieces$Bars", "ends", "[I", true)
  | 2 => ("ZigzagPieces$Bars", "size", "I", false)
  | _ => ("ZigzagPieces$Bars", "open", "I", false)
def tyX0 : Nat → FieldType := fun k => match k with
  | 0 => .array .int
  | 1 => .array .int
  | 2 => .int
  | _ => .int
theorem nmX0 : ∀ a, a < 4 → ∀ b, b < 4 → a ≠ b → (TX0 a).2.1 ≠ (TX0 b).2.1 := by decide +kernel
theorem tyX0_ok : ∀ k, k < 4 → parseFieldDescriptor (TX0 k).2.2.1 = some (tyX0 k) := by decide +kernel
def RX1 : String := "ZigzagPieces$Kinship"
def TX1 : u_T := fun k => match k with
  | 0 => ("ZigzagPieces$Kinship", "roots", "[I", true)
  | 1 => ("ZigzagPieces$Kinship", "since", "[I", true)
  | 2 => ("ZigzagPieces$Kinship", "withFirst", "[I", true)
  | _ => ("ZigzagPieces$Kinship", "withSecond", "[I", true)
def tyX1 : Nat → FieldType := fun k => match k with
  | 0 => .array .int
  | 1 => .array .int
  | 2 => .array .int
  | _ => .array .int
theorem nmX1 : ∀ a, a < 4 → ∀ b, b < 4 → a ≠ b → (TX1 a).2.1 ≠ (TX1 b).2.1 := by decide +kernel
theorem tyX1_ok : ∀ k, k < 4 → parseFieldDescriptor (TX1 k).2.2.1 = some (tyX1 k) := by decide +kernel
def RX2 : String := "ZigzagPieces$Net"
def TX2 : u_T := fun k => match k with
  | 0 => ("ZigzagPieces$Net", "near", "[I", true)
  | 1 => ("ZigzagPieces$Net", "points", "I", false)
  | _ => ("ZigzagPieces$Net", "edges", "I", false)
def tyX2 : Nat → FieldType := fun k => match k with
  | 0 => .array .int
  | 1 => .int
  | _ => .int
theorem nmX2 : ∀ a, a < 3 → ∀ b, b < 3 → a ≠ b → (TX2 a).2.1 ≠ (TX2 b).2.1 := by decide +kernel
theorem tyX2_ok : ∀ k, k < 3 → parseFieldDescriptor (TX2 k).2.2.1 = some (tyX2 k) := by decide +kernel
def RX3 : String := "ZigzagPieces$Row"
def TX3 : u_T := fun k => match k with
  | 0 => ("ZigzagPieces$Row", "acts", "[I", true)
  | _ => ("ZigzagPieces$Row", "size", "I", false)
def tyX3 : Nat → FieldType := fun k => match k with
  | 0 => .array .int
  | _ => .int
theorem nmX3 : ∀ a, a < 2 → ∀ b, b < 2 → a ≠ b → (TX3 a).2.1 ≠ (TX3 b).2.1 := by decide +kernel
theorem tyX3_ok : ∀ k, k < 2 → parseFieldDescriptor (TX3 k).2.2.1 = some (tyX3 k) := by decide +kernel
def RX4 : String := "ZigzagPieces$Shelf"
def TX4 : u_T := fun k => match k with
  | 0 => ("ZigzagPieces$Shelf", "rows", "[LZigzagPieces$Row;", true)
  | _ => ("ZigzagPieces$Shelf", "size", "I", false)
def tyX4 : Nat → FieldType := fun k => match k with
  | 0 => .array (.object "ZigzagPieces$Row")
  | _ => .int
theorem nmX4 : ∀ a, a < 2 → ∀ b, b < 2 → a ≠ b → (TX4 a).2.1 ≠ (TX4 b).2.1 := by decide +kernel
theorem tyX4_ok : ∀ k, k < 2 → parseFieldDescriptor (TX4 k).2.2.1 = some (tyX4 k) := by decide +kernel
def RX5 : String := "ZigzagPieces$Story"
def TX5 : u_T := fun k => match k with
  | 0 => ("ZigzagPieces$Story", "net", "LZigzagPieces$Net;", true)
  | 1 => ("ZigzagPieces$Story", "kinship", "LZigzagPieces$Kinship;", true)
  | _ => ("ZigzagPieces$Story", "bars", "LZigzagPieces$Bars;", true)
def tyX5 : Nat → FieldType := fun k => match k with
  | 0 => .object "ZigzagPieces$Net"
  | 1 => .object "ZigzagPieces$Kinship"
  | _ => .object "ZigzagPieces$Bars"
theorem nmX5 : ∀ a, a < 3 → ∀ b, b < 3 → a ≠ b → (TX5 a).2.1 ≠ (TX5 b).2.1 := by decide +kernel
theorem tyX5_ok : ∀ k, k < 3 → parseFieldDescriptor (TX5 k).2.2.1 = some (tyX5 k) := by decide +kernel
def RX6 : String := "ZigzagPieces$Text"
def TX6 : u_T := fun k => match k with
  | 0 => ("ZigzagPieces$Text", "letters", "[I", true)
  | _ => ("ZigzagPieces$Text", "length", "I", false)
def tyX6 : Nat → FieldType := fun k => match k with
  | 0 => .array .int
  | _ => .int
theorem nmX6 : ∀ a, a < 2 → ∀ b, b < 2 → a ≠ b → (TX6 a).2.1 ≠ (TX6 b).2.1 := by decide +kernel
theorem tyX6_ok : ∀ k, k < 2 → parseFieldDescriptor (TX6 k).2.2.1 = some (tyX6 k) := by decide +kernel
def RX7 : String := "ZigzagPieces"
def TX7 : u_T := fun k => match k with
  | 0 => ("ZigzagPieces", "text", "LZigzagPieces$Text;", true)
  | 1 => ("ZigzagPieces", "row", "LZigzagPieces$Row;", true)
  | 2 => ("ZigzagPieces", "trial", "LZigzagPieces$Row;", true)
  | 3 => ("ZigzagPieces", "undoable", "LZigzagPieces$Shelf;", true)
  | 4 => ("ZigzagPieces", "kept", "LZigzagPieces$Shelf;", true)
  | 5 => ("ZigzagPieces", "now", "LZigzagPieces$Story;", true)
  | _ => ("ZigzagPieces", "aside", "LZigzagPieces$Story;", true)
def tyX7 : Nat → FieldType := fun k => match k with
  | 0 => .object "ZigzagPieces$Text"
  | 1 => .object "ZigzagPieces$Row"
  | 2 => .object "ZigzagPieces$Row"
  | 3 => .object "ZigzagPieces$Shelf"
  | 4 => .object "ZigzagPieces$Shelf"
  | 5 => .object "ZigzagPieces$Story"
  | _ => .object "ZigzagPieces$Story"
theorem nmX7 : ∀ a, a < 7 → ∀ b, b < 7 → a ≠ b → (TX7 a).2.1 ≠ (TX7 b).2.1 := by decide +kernel
theorem tyX7_ok : ∀ k, k < 7 → parseFieldDescriptor (TX7 k).2.2.1 = some (tyX7 k) := by decide +kernel
def RX8 : String := "ZigzagPiecesModel"
def TX8 : u_T := fun k => match k with
  | 0 => ("ZigzagPiecesModel", "thrown", "I", false)
  | 1 => ("ZigzagPiecesModel", "text", "[B", true)
  | 2 => ("ZigzagPiecesModel", "letters", "I", false)
  | 3 => ("ZigzagPiecesModel", "s", "[I", true)
  | 4 => ("ZigzagPiecesModel", "past", "[I", true)
  | 5 => ("ZigzagPiecesModel", "undos", "I", false)
  | 6 => ("ZigzagPiecesModel", "kept", "[I", true)
  | 7 => ("ZigzagPiecesModel", "keeps", "I", false)
  | 8 => ("ZigzagPiecesModel", "there", "I", false)
  | 9 => ("ZigzagPiecesModel", "beside", "[I", true)
  | 10 => ("ZigzagPiecesModel", "pieceOf", "[I", true)
  | 11 => ("ZigzagPiecesModel", "pieces", "I", false)
  | 12 => ("ZigzagPiecesModel", "root", "[I", true)
  | 13 => ("ZigzagPiecesModel", "kin", "[I", true)
  | 14 => ("ZigzagPiecesModel", "begin", "[I", true)
  | 15 => ("ZigzagPiecesModel", "end", "[I", true)
  | 16 => ("ZigzagPiecesModel", "bars", "I", false)
  | 17 => ("ZigzagPiecesModel", "told", "[I", true)
  | 18 => ("ZigzagPiecesModel", "at", "I", false)
  | 19 => ("ZigzagPiecesModel", "wasBegin", "[I", true)
  | 20 => ("ZigzagPiecesModel", "wasEnd", "[I", true)
  | _ => ("ZigzagPiecesModel", "wasBars", "I", false)
def tyX8 : Nat → FieldType := fun k => match k with
  | 0 => .int
  | 1 => .array .byte
  | 2 => .int
  | 3 => .array .int
  | 4 => .array .int
  | 5 => .int
  | 6 => .array .int
  | 7 => .int
  | 8 => .int
  | 9 => .array .int
  | 10 => .array .int
  | 11 => .int
  | 12 => .array .int
  | 13 => .array .int
  | 14 => .array .int
  | 15 => .array .int
  | 16 => .int
  | 17 => .array .int
  | 18 => .int
  | 19 => .array .int
  | 20 => .array .int
  | _ => .int
theorem nmX8 : ∀ a, a < 22 → ∀ b, b < 22 → a ≠ b → (TX8 a).2.1 ≠ (TX8 b).2.1 := by decide +kernel
theorem tyX8_ok : ∀ k, k < 22 → parseFieldDescriptor (TX8 k).2.2.1 = some (tyX8 k) := by decide +kernel
theorem Tb_all (ws : List Cond) (ix : List Nat) (h : ws.map some = ix.map (fun i => lw_tbl[i]?)) (hg : ws.all goodWord = true) : ∀ w ∈ ws, w ∈ Tb := by
  intro w hw
  have h1 : some w ∈ ws.map some := List.mem_map.mpr ⟨w, hw, rfl⟩
  rw [h] at h1
  obtain ⟨i, -, hi⟩ := List.mem_map.mp h1
  exact Tb_at i hi (List.all_eq_true.mp hg w hw)
set_option maxRecDepth 20000 in
theorem inX0 : ∀ w ∈ u_ws RX0 TX0 4, w ∈ Tb := Tb_all _ [167, 169, 171, 173] rfl rfl
set_option maxRecDepth 20000 in
theorem inX1 : ∀ w ∈ u_ws RX1 TX1 4, w ∈ Tb := Tb_all _ [148, 150, 152, 154] rfl rfl
set_option maxRecDepth 20000 in
theorem inX2 : ∀ w ∈ u_ws RX2 TX2 3, w ∈ Tb := Tb_all _ [131, 133, 135] rfl rfl
set_option maxRecDepth 20000 in
theorem inX3 : ∀ w ∈ u_ws RX3 TX3 2, w ∈ Tb := Tb_all _ [92, 94] rfl rfl
set_option maxRecDepth 20000 in
theorem inX4 : ∀ w ∈ u_ws RX4 TX4 2, w ∈ Tb := Tb_all _ [111, 113] rfl rfl
set_option maxRecDepth 20000 in
theorem inX5 : ∀ w ∈ u_ws RX5 TX5 3, w ∈ Tb := Tb_all _ [182, 184, 186] rfl rfl
set_option maxRecDepth 20000 in
theorem inX6 : ∀ w ∈ u_ws RX6 TX6 2, w ∈ Tb := Tb_all _ [78, 80] rfl rfl
set_option maxRecDepth 20000 in
theorem inX7 : ∀ w ∈ u_ws RX7 TX7 7, w ∈ Tb := Tb_all _ [480, 482, 484, 486, 488, 490, 492] rfl rfl
set_option maxRecDepth 20000 in
theorem inX8 : ∀ w ∈ u_ws RX8 TX8 22, w ∈ Tb := Tb_all _ [742, 744, 746, 748, 750, 752, 754, 756, 758, 760, 762, 764, 766, 768, 770, 772, 774, 776, 778, 780, 782, 784] rfl rfl
abbrev mcl : List vw_C := [(RX0, TX0, 4), (RX1, TX1, 4), (RX2, TX2, 3), (RX3, TX3, 2), (RX4, TX4, 2), (RX5, TX5, 3), (RX6, TX6, 2), (RX7, TX7, 7), (RX8, TX8, 22)]
/-- a class of the worlds: its words stand in the tables, its fields have types and names of their own -/
def clOK (q : vw_C) : Prop := (∀ w ∈ u_ws q.1 q.2.1 q.2.2, w ∈ Tb) ∧ ∃ ty : Nat → FieldType, (∀ k, k < q.2.2 → parseFieldDescriptor (q.2.1 k).2.2.1 = some (ty k)) ∧ ∀ a, a < q.2.2 → ∀ b, b < q.2.2 → a ≠ b → (q.2.1 a).2.1 ≠ (q.2.1 b).2.1
theorem mcl_ok : ∀ q ∈ mcl, clOK q := List.forall_mem_cons.mpr ⟨⟨inX0, tyX0, tyX0_ok, nmX0⟩, List.forall_mem_cons.mpr ⟨⟨inX1, tyX1, tyX1_ok, nmX1⟩, List.forall_mem_cons.mpr ⟨⟨inX2, tyX2, tyX2_ok, nmX2⟩, List.forall_mem_cons.mpr ⟨⟨inX3, tyX3, tyX3_ok, nmX3⟩, List.forall_mem_cons.mpr ⟨⟨inX4, tyX4, tyX4_ok, nmX4⟩, List.forall_mem_cons.mpr ⟨⟨inX5, tyX5, tyX5_ok, nmX5⟩, List.forall_mem_cons.mpr ⟨⟨inX6, tyX6, tyX6_ok, nmX6⟩, List.forall_mem_cons.mpr ⟨⟨inX7, tyX7, tyX7_ok, nmX7⟩, List.forall_mem_cons.mpr ⟨⟨inX8, tyX8, tyX8_ok, nmX8⟩, fun _ h => absurd h List.not_mem_nil⟩⟩⟩⟩⟩⟩⟩⟩⟩
end
section
/-! The abstract machine is right of the machine: a run of it is a contract. -/
def cz (ad : Nat → Nat) (v : Value) : Value := match v with
  | .ref k => .ref (ad k)
  | v => v
def cE (cy ad : Nat → Nat) (e : va_E) : va_E := match e with
  | .inl (t, n, .inr (.inr (.inr (.inr g)))) => .inl (cy t, n, .inr (.inr (.inr (.inr fun i => (g i).map ad))))
  | .inl (t, x) => .inl (cy t, x)
  | .inr (c, fs) => .inr (c, fs.map (cz ad))
def cW (cy ad : Nat → Nat) (h : mH) : va_W := h.mapIdx fun k e => (ad k, cE cy ad e)
def mty (cy : Nat → Nat) : List (ClassId × FieldType) := [(cy 0, .int), (cy 1, .byte), (cy 2, .object RX3)]
theorem cz_cat (ad : Nat → Nat) (v : Value) : (cz ad v).category = v.category := by cases v <;> rfl
theorem cW_at {cy ad : Nat → Nat} {h : mH} {k : Nat} {e : va_E} (hk : h[k]? = some e) : (cW cy ad h)[k]? = some (ad k, cE cy ad e) := by
  simp [cW, List.getElem?_mapIdx, hk]
theorem cW_set (cy ad : Nat → Nat) (h : mH) (k : Nat) (e : va_E) : (cW cy ad h).set k (ad k, cE cy ad e) = cW cy ad (h.set k e) := by
  apply List.ext_getElem?
  intro i
  simp only [cW, List.getElem?_mapIdx, List.getElem?_set, List.length_mapIdx]
  by_cases hki : k = i
  · subst hki
    by_cases hl : k < h.length <;> simp [hl]
  · simp [hki]
theorem cW_setO (cy ad : Nat → Nat) (h : mH) (a ci y : Nat) (fs : List Value) (v : Int32) : (cW cy ad h).set a (ad a, .inr (ci, (fs.map (cz ad)).set y (.int v))) = cW cy ad (h.set a (.inr (ci, fs.set y (.int v)))) := by
  rw [← cW_set]
  show _ = (cW cy ad h).set a (ad a, .inr (ci, (fs.set y (.int v)).map (cz ad)))
  rw [List.map_set]
  rfl
theorem cW_setQ (cy ad : Nat → Nat) (h : mH) (a t n i v : Nat) (g : Nat → Option Nat) : (cW cy ad h).set a (ad a, .inl (cy t, n, .inr (.inr (.inr (.inr (va_up (fun j => (g j).map ad) i (some (ad v)))))))) = cW cy ad (h.set a (.inl (t, n, .inr (.inr (.inr (.inr (va_up g i (some v)))))))) := by
  rw [← cW_set]
  have e : (va_up (fun j => (g j).map ad) i (some (ad v))) = fun j => (va_up g i (some v) j).map ad := by
    funext j
    unfold va_up
    by_cases hj : j = i <;> simp [hj]
  rw [e]
  rfl
theorem va_rf_map (ad : Nat → Nat) (r : Option Nat) : va_rf (r.map ad) = cz ad (va_rf r) := by cases r <;> rfl
/-- locals -/
def LV (ad : Nat → Nat) (ls : Array Slot) (nL : Nat) (lv : List Value) : Prop := ls.size = nL ∧ lv_wf ls ∧ lv.length = nL ∧ ∀ (i : Nat) (v : Value), lv[i]? = some v → v.category = 1 → ls[i]? = some (.val (cz ad v))
def prs (ad : Nat → Nat) (lv : List Value) : List (Nat × Value) := lv.zipIdx.filterMap fun q => if q.1.category = 1 then some (q.2, cz ad q.1) else none
theorem prs_mem {ad : Nat → Nat} {lv : List Value} {i : Nat} {v : Value} (h : lv[i]? = some v) (hv : v.category = 1) : (i, cz ad v) ∈ prs ad lv := by
  refine List.mem_filterMap.mpr ⟨(v, i), List.mem_zipIdx_iff_getElem?.mpr h, ?_⟩
  simp [hv]
theorem prs_mem' {ad : Nat → Nat} {lv : List Value} {q : Nat × Value} (h : q ∈ prs ad lv) : ∃ v, lv[q.1]? = some v ∧ v.category = 1 ∧ q.2 = cz ad v := by
  obtain ⟨⟨v, i⟩, h1, h2⟩ := List.mem_filterMap.mp h
  have h3 := List.mem_zipIdx_iff_getElem?.mp h1
  dsimp only at h2 h3
  split at h2
  next hc =>
    cases h2
    exact ⟨v, h3, hc, rfl⟩
  next => cases h2
theorem LV.has {ad : Nat → Nat} {ls : Array Slot} {nL : Nat} {lv : List Value} (h : LV ad ls nL lv) : lv_has ls nL (prs ad lv) := ⟨h.1, h.2.1, fun q hq => by
  obtain ⟨v, h1, h2, h3⟩ := prs_mem' hq
  rw [h3]
  exact h.2.2.2 _ _ h1 h2⟩
theorem LV.put {ad : Nat → Nat} {ls ls' : Array Slot} {nL i : Nat} {lv : List Value} {v w : Value} (h : LV ad ls nL lv) (hv : v.category = 1) (hw : w = cz ad v) (h' : lv_has ls' nL ((i, w) :: (prs ad lv).filter (fun q => !(q.1 == i) && !(q.1 + 1 == i && q.2.category == 2)))) : LV ad ls' nL (lv.set i v) := by
  subst hw
  refine ⟨h'.1, h'.2.1, by rw [List.length_set]; exact h.2.2.1, fun j u hj hu => ?_⟩
  rw [List.getElem?_set] at hj
  by_cases hij : i = j
  · subst hij
    simp only [if_true] at hj
    split at hj
    next =>
      cases hj
      exact h'.2.2 (i, cz ad v) List.mem_cons_self
    next => cases hj
  · rw [if_neg hij] at hj
    refine h'.2.2 (j, cz ad u) (List.mem_cons_of_mem _ (List.mem_filter.mpr ⟨prs_mem hj hu, ?_⟩))
    have e1 : (j == i) = false := by simp; exact fun q => hij q.symm
    have e2 : ((cz ad u).category == 2) = false := by rw [cz_cat, hu]; rfl
    simp [e1, e2]
theorem lv_args_mem : ∀ (vs : List Value) (k i : Nat) (v : Value), m_c1 vs = true → vs[i]? = some v → (k + i, v) ∈ lv_args k vs
  | [], _, i, v, _, h => by simp at h
  | w :: vs, k, 0, v, _, h => by
    simp only [List.getElem?_cons_zero, Option.some.injEq] at h
    subst h
    exact List.mem_cons_self
  | w :: vs, k, i + 1, v, hc, h => by
    simp only [List.getElem?_cons_succ] at h
    have hc' : Nat.beq w.category 1 = true ∧ m_c1 vs = true := by simpa [m_c1] using hc
    have hw : w.category = 1 := Nat.eq_of_beq_eq_true hc'.1
    have ih := lv_args_mem vs (k + 1) i v hc'.2 h
    show _ ∈ (k, w) :: lv_args (if w.category = 2 then k + 2 else k + 1) vs
    rw [if_neg (by rw [hw]; decide)]
    refine List.mem_cons_of_mem _ ?_
    have e : k + (i + 1) = k + 1 + i := by omega
    rw [e]
    exact ih
theorem m_c1_map (ad : Nat → Nat) (a : List Value) : m_c1 (a.map (cz ad)) = m_c1 a := by
  simp [m_c1, List.all_map, Function.comp_def, cz_cat]
theorem lg_sl_len : ∀ (vs : List Value), m_c1 vs = true → (lg_sl vs).length = vs.length
  | [], _ => rfl
  | w :: vs, hc => by
    have hc' : Nat.beq w.category 1 = true ∧ m_c1 vs = true := by simpa [m_c1] using hc
    have hw : w.category = 1 := Nat.eq_of_beq_eq_true hc'.1
    have ih := lg_sl_len vs hc'.2
    unfold lg_sl at ih ⊢
    simp [hw, ih]
theorem LV.entry {ad : Nat → Nat} {a : List Value} {n : Nat} (hc : m_c1 a = true) (hn : a.length ≤ n) : LV ad ((lg_sl (a.map (cz ad)) ++ List.replicate (n - (lg_sl (a.map (cz ad))).length) Slot.unset).toArray) n (a ++ List.replicate (n - a.length) (.long 0)) := by
  have hc2 : m_c1 (a.map (cz ad)) = true := by rw [m_c1_map]; exact hc
  have h := lv_entry (a.map (cz ad)) (n := n) (by rw [lg_sl_len _ hc2, List.length_map]; exact hn)
  refine ⟨h.1, h.2.1, by simp; omega, fun i v hi hv => ?_⟩
  rw [List.getElem?_append] at hi
  split at hi
  next hl =>
    have h1 : (a.map (cz ad))[i]? = some (cz ad v) := by rw [List.getElem?_map, hi]; rfl
    have h2 := lv_args_mem (a.map (cz ad)) 0 i _ hc2 h1
    rw [Nat.zero_add] at h2
    exact h.2.2 _ h2
  next =>
    have h1 := List.mem_of_getElem? hi
    rw [List.mem_replicate] at h1
    rw [h1.2] at hv
    cases hv
theorem m_p1_inv {st : List Value} {f : Int32 → List Value → Prop} (h : m_p1 st f) : ∃ a r, st = .int a :: r ∧ f a r := by
  unfold m_p1 at h; split at h
  · exact ⟨_, _, rfl, h⟩
  · exact h.elim
theorem m_p2_inv {st : List Value} {f : Int32 → Int32 → List Value → Prop} (h : m_p2 st f) : ∃ a b r, st = .int b :: .int a :: r ∧ f a b r := by
  unfold m_p2 at h; split at h
  · exact ⟨_, _, _, rfl, h⟩
  · exact h.elim
theorem m_pR_inv {st : List Value} {f : Nat → List Value → Prop} (h : m_pR st f) : ∃ a r, st = .ref a :: r ∧ f a r := by
  unfold m_pR at h; split at h
  · exact ⟨_, _, rfl, h⟩
  · exact h.elim
theorem m_pA_inv {st : List Value} {f : Value → List Value → Prop} (h : m_pA st f) : ∃ v r, st = v :: r ∧ (v = .null ∨ ∃ a, v = .ref a) ∧ f v r := by
  unfold m_pA at h; split at h
  · exact ⟨_, _, rfl, Or.inr ⟨_, rfl⟩, h⟩
  · exact ⟨_, _, rfl, Or.inl rfl, h⟩
  · exact h.elim
theorem m_pV_inv {st : List Value} {f : Value → List Value → Prop} (h : m_pV st f) : ∃ v r, st = v :: r ∧ v.category = 1 ∧ f v r := by
  unfold m_pV at h; split at h
  · exact ⟨_, _, rfl, h.1, h.2⟩
  · exact h.elim
theorem m_pVV_inv {st : List Value} {f : Value → Value → List Value → Prop} (h : m_pVV st f) : ∃ v w r, st = v :: w :: r ∧ v.category = 1 ∧ w.category = 1 ∧ f v w r := by
  unfold m_pVV at h; split at h
  · exact ⟨_, _, _, rfl, h.1, h.2.1, h.2.2⟩
  · exact h.elim
theorem m_lI_inv {lv : List Value} {j : Nat} {f : Int32 → Prop} (h : m_lI lv j f) : ∃ a, lv[j]? = some (.int a) ∧ f a := by
  unfold m_lI at h; split at h
  next hq => exact ⟨_, hq, h⟩
  next => exact h.elim
theorem m_lA_inv {lv : List Value} {j : Nat} {f : Value → Prop} (h : m_lA lv j f) : ∃ v, lv[j]? = some v ∧ (v = .null ∨ ∃ a, v = .ref a) ∧ f v := by
  unfold m_lA at h; split at h
  next hq => exact ⟨_, hq, Or.inr ⟨_, rfl⟩, h⟩
  next hq => exact ⟨_, hq, Or.inl rfl, h⟩
  next => exact h.elim
theorem m_gO_inv {h : mH} {a : Nat} {f : Nat → List Value → Prop} (hh : m_gO h a f) : ∃ ci fs, h[a]? = some (.inr (ci, fs)) ∧ f ci fs := by
  unfold m_gO at hh; split at hh
  next o hq => exact ⟨o.1, o.2, hq, hh⟩
  next => exact hh.elim
theorem m_gA_inv {h : mH} {a t : Nat} {f : Nat → (Nat → Int32) → Prop} (hh : m_gA h a t f) : ∃ n g, h[a]? = some (.inl (t, n, .inl g)) ∧ f n g := by
  unfold m_gA at hh; split at hh
  next hq => exact ⟨_, _, by rw [hq, hh.1], hh.2⟩
  next => exact hh.elim
theorem m_gQ_inv {h : mH} {a : Nat} {f : Nat → (Nat → Option Nat) → Prop} (hh : m_gQ h a f) : ∃ n g, h[a]? = some (.inl (2, n, .inr (.inr (.inr (.inr g))))) ∧ f n g := by
  unfold m_gQ at hh; split at hh
  next hq => exact ⟨_, _, by rw [hq, hh.1], hh.2⟩
  next => exact hh.elim
theorem m_gL_inv {h : mH} {a : Nat} {f : Nat → Prop} (hh : m_gL h a f) : ∃ t n x, h[a]? = some (.inl (t, n, x)) ∧ t < 3 ∧ f n := by
  unfold m_gL at hh; split at hh
  next hq => exact ⟨_, _, _, hq, hh.1, hh.2⟩
  next => exact hh.elim
/-- contracts -/
def mRm (d : Nat) : Room := { frames := d, cells := 0, slots := 0, locals := d * 30 }
def mPc (D : va_G) (cy ad : Nat → Nat) (a : List Value) (h : mH) (sz : Nat) : Array Value → State → Prop := va_Pc (a.map (cz ad)) (fun U => U.heap.size = sz ∧ va_P D mcl (cW cy ad h) U.heap ∧ va_K D mcl (mty cy) U ∧ va_D (fun _ => True) (cW cy ad h) ∧ mNw U)
def mQc (D : va_G) (cy ad : Nat → Nat) (h : mH) (sz : Nat) (Q : Option Value → mH → Prop) : Array Value → State → Outcome → State → Prop := fun _ st oc t =>
  (∃ (r : Option Value) (h' : mH), oc = .returned (r.map (cz ad)) ∧ Q r h' ∧ va_P D mcl (cW cy ad h') t.heap ∧ va_K D mcl (mty cy) t ∧ va_D (va_A (cW cy ad h) sz) (cW cy ad h')) ∧ va_F (va_A (cW cy ad h) sz) st t
def mMet (l : Launch) (P : List mM) (d : Nat) (D : va_G) (cy ad : Nat → Nat) (M : Nat) (a : List Value) (h : mH) (Q : Option Value → mH → Prop) : Prop :=
  ∀ (sz : Nat) (y : MethodName) (b : ByteArray) (mL : Nat) (rt : Option FieldType) (C : List (Nat × mE)), P[M]? = some (y, b, mL, rt, C) → Met l y (.code y b mL rt :: Tb) (mRm d) (mPc D cy ad a h sz) (mQc D cy ad h sz Q) 0 0 (va_A (cW cy ad h) sz)
theorem mPc_blind {D : va_G} {cy ad : Nat → Nat} {a : List Value} {h : mH} {sz : Nat} : FrameBlind (mPc D cy ad a h sz) := fun _ U _ _ q => by
  obtain ⟨q0, q1, qP, qK, qD, qN⟩ := q
  exact ⟨q0, q1, qP, va_K.moved (u := U) (Vm.Alike.refl U.vm) qK, qD, mNw.same (u := U) (show U.vm = _ from rfl) qN⟩
section MC
variable {p : Program} {l : Launch} {e : Env} {R : Room} {s : State} {m : MethodId} {args : Array Value} {below : List Frame} {meth : Method} {c : Code} {H : Heap} {locs : List Loc} {cells slots : Nat} {Q : State → Prop}
variable {pc : Nat} {ls : Array Slot} {rest st0 : List Value} {a : Array Value} {A0 A1 : Nat → Prop} {H0 : Heap} {mc ms : Nat} {free : Addr → Prop}
theorem va_callg {D : va_G} {cy ad : Nat → Nat} {h : mH} {sz : Nat} {P : Option Value → mH → Prop} (hr : va_Run p l e R s m args below meth c H locs cells slots mc ms (F0 m pc ls st0) rest (mQc D cy ad h sz P a) free) (hS : va_S A0 H0 H locs) (hA : ∀ q, q < H.size → va_A (cW cy ad h) sz q → A0 q) (hf : ∀ q, free q → A0 q)
    (kk : ∀ (r : Option Value) (h' : mH) (H1 : Heap) (locs1 : List Loc), P r h' → va_P D mcl (cW cy ad h') H1 → va_D (va_A (cW cy ad h) sz) (cW cy ad h') → va_S A0 H0 H1 locs1 → W p l e R s m args below meth c H1 locs1 (cells + mc) (slots + ms) Q (F0 m (pc + 3) ls ((r.map (cz ad)).toList ++ rest))) : W p l e R s m args below meth c H locs cells slots Q (F0 m pc ls st0) := by
  intro T hT X
  obtain ⟨v, st₀, t, T', L, h0, X', hL, e1, e2, ⟨⟨r, u, hv, hp, hb, hK, hD⟩, hz, hk⟩, st⟩ := hr T hT X
  cases hv
  rw [h0] at hz hk
  obtain ⟨t2, a1, b1⟩ := kk r u T'.heap (locs ++ L) hp (by rw [e1]; exact hb) hD
    ⟨Nat.le_trans hS.1 (by rw [e1]; exact hz), fun q h1 h2 => by rw [e1, hk q (Nat.lt_of_lt_of_le h1 hS.1) (fun z => h2 (hA q (Nat.lt_of_lt_of_le h1 hS.1) z))]; exact hS.2.1 q h1 h2, fun q hq => by
      rcases List.mem_append.mp hq with h | h
      · exact hS.2.2 q h
      · exact hf _ (hL q h)⟩ T' rfl X'
  exact ⟨t2, st t2 a1, b1⟩
end MC
end
section
/-! Each instruction of the abstract machine, over the kit's rows. -/
def ilOK (i : Instr) (len : Nat) : Prop := match i with
  | .tableswitch _ _ _ _ => True
  | .lookupswitch _ _ => True
  | .bipush _ => len = 2
  | .ldc_w _ => len = 3
  | .iload _ => len = 2
  | .aload _ => len = 2
  | .istore _ => len = 2
  | .astore _ => len = 2
  | .sipush _ => len = 3
  | .iinc _ _ => len = 3
  | .getfield _ => len = 3
  | .putfield _ => len = 3
  | .goto _ => len = 3
  | .ifCond _ _ => len = 3
  | .if_icmp _ _ => len = 3
  | .ifnull _ => len = 3
  | .ifnonnull _ => len = 3
  | .invokestatic _ => len = 3
  | .invokevirtual _ => len = 3
  | _ => len = 1
def FOK (own : String) (idx x y : Nat) : Prop := ∃ (C : String) (T : u_T) (N : Nat), mcl[x]? = some (C, T, N) ∧ y < N ∧ (Cond.fieldLink own idx (T y).1 (T y).2.1 (T y).2.2.1 ∈ Tb ∨ ∃ host, Cond.fieldLinkNest own idx (T y).1 (T y).2.1 (T y).2.2.1 host ∈ Nb)
def FPK (own : String) (idx x y : Nat) : Prop := ∃ (C : String) (T : u_T) (N : Nat), mcl[x]? = some (C, T, N) ∧ y < N ∧ Cond.fieldLink own idx (T y).1 (T y).2.1 (T y).2.2.1 ∈ Tb ∧ (T y).2.2.2 = false ∧ parseFieldDescriptor (T y).2.2.1 = some .int
def SOK (P : List mM) (own : String) (idx x y : Nat) : Prop := ∃ (yn : MethodName) (b : ByteArray) (mL : Nat) (rt : Option FieldType) (C : List (Nat × mE)), P[x]? = some (yn, b, mL, rt, C) ∧ (parseMethodDescriptor yn.desc).map (fun d => d.parameters.length) = some y ∧ Cond.static yn ∈ Tb ∧ (Cond.methodLink own idx yn ∈ Tb ∨ ∃ host, Cond.methodLinkNest own idx yn host ∈ Nb)
def VOK (P : List mM) (own : String) (idx x y z : Nat) : Prop := ∃ (yn : MethodName) (b : ByteArray) (mL : Nat) (rt : Option FieldType) (C : List (Nat × mE)) (n : Nat), P[x]? = some (yn, b, mL, rt, C) ∧ y = n + 1 ∧ (parseMethodDescriptor yn.desc).map (fun d => d.parameters.length) = some n ∧ Cond.instanceMethod yn ∈ Tb ∧ Cond.selects yn.cls yn yn ∈ Tb ∧ (∃ (T : u_T) (N : Nat), mcl[z]? = some (yn.cls, T, N)) ∧ (Cond.methodLink own idx yn ∈ Tb ∨ ∃ host, Cond.methodLinkNest own idx yn host ∈ Nb)
def XOK (own : String) (idx : Nat) : Prop := Cond.methodLink own idx Lib.Math.max.name ∈ Tb ∧ Cond.static Lib.Math.max.name ∈ Tb ∧ Cond.initialized "java/lang/Math" ∈ Tb ∧ Cond.code Lib.Math.max.name Lib.Math.max.code 2 (some .int) ∈ Tb
def IOK (own : String) (idx : Nat) : Prop := Cond.methodLink own idx Lib.Math.min.name ∈ Tb ∧ Cond.static Lib.Math.min.name ∈ Tb ∧ Cond.initialized "java/lang/Math" ∈ Tb ∧ Cond.code Lib.Math.min.name Lib.Math.min.code 2 (some .int) ∈ Tb
def TOK (P : List mM) (own : String) (idx x y z : Nat) : Prop := match z with
  | 0 => SOK P own idx x y
  | 1 => XOK own idx
  | _ => IOK own idx
def lkOK (P : List mM) (own : String) (pc : Nat) (e : mE) : Prop := match e.1 with
  | .getfield idx => FOK own idx e.2.2.1 e.2.2.2.1
  | .putfield idx => FPK own idx e.2.2.1 e.2.2.2.1
  | .invokestatic idx => TOK P own idx e.2.2.1 e.2.2.2.1 e.2.2.2.2
  | .invokevirtual idx => VOK P own idx e.2.2.1 e.2.2.2.1 e.2.2.2.2
  | .ldc_w idx => Cond.constant own idx (nI e.2.2.1) ∈ Tb
  | .goto o => (pc : Int) + o = (e.2.2.1 : Int)
  | .ifCond _ o => (pc : Int) + o = (e.2.2.1 : Int)
  | .if_icmp _ o => (pc : Int) + o = (e.2.2.1 : Int)
  | .ifnull o => (pc : Int) + o = (e.2.2.1 : Int)
  | .ifnonnull o => (pc : Int) + o = (e.2.2.1 : Int)
  | .tableswitch d lo hi offs => 0 ≤ (pc : Int) + d ∧ hi - lo + 1 = (offs.size : Int) ∧ ∀ o ∈ offs.toList, 0 ≤ (pc : Int) + o
  | .lookupswitch d ps => 0 ≤ (pc : Int) + d ∧ (ps.toList.zip (ps.toList.drop 1)).all (fun (a, next) => a.1 < next.1) = true ∧ ∀ q ∈ ps.toList, 0 ≤ (pc : Int) + q.2
  | _ => True
def insOK (P : List mM) (own : String) (b : ByteArray) (pc : Nat) (e : mE) : Prop := (∃ len, decode b pc = .ok (e.1, len) ∧ e.2.1 = pc + len ∧ ilOK e.1 len) ∧ lkOK P own pc e
def mOK (P : List mM) (q : mM) : Prop := Cond.code q.1 q.2.1 q.2.2.1 q.2.2.2.1 ∈ Tb ∧ Cond.initialized q.1.cls ∈ Tb ∧ plainName q.1.cls = true ∧ q.1.cls ≠ "java/lang/invoke/MethodHandle" ∧ q.1.cls ≠ "java/lang/invoke/VarHandle" ∧ q.2.2.1 ≤ 11 ∧ ∀ z ∈ q.2.2.2.2, insOK P q.1.cls q.2.1 z.1 z.2
def POK (P : List mM) : Prop := ∀ q ∈ P, mOK P q
theorem lk_nonneg (ps : List (Int × Int)) (d k : Int) (pc : Int) (hd : 0 ≤ pc + d) (hp : ∀ q ∈ ps, 0 ≤ pc + q.2) : 0 ≤ pc + Op.lookupswitch.offset ps d k := by
  induction ps with
  | nil => exact hd
  | cons q r ih =>
    obtain ⟨a, o⟩ := q
    rw [Op.lookupswitch.offset_cons]
    split
    · exact hp (a, o) List.mem_cons_self
    · exact ih (fun q hq => hp q (List.mem_cons_of_mem _ hq))
section STEP
variable {p : Program} {l : Launch} {ev : Env} {R : Room} {s : State} {m : MethodId} {args : Array Value} {below : List Frame} {meth : Method} {c : Code}
variable {D : va_G} {cy ad : Nat → Nat} {A : Nat → Prop} {nL d : Nat} {bb : ByteArray} {own : String} {rt : Option FieldType} {P : List mM} {cal : mC} {Q : Option Value → mH → Prop} {Qc : Array Value → State → Outcome → State → Prop}
def mX (p : Program) (l : Launch) (ev : Env) (R : Room) (s : State) (m : MethodId) (args : Array Value) (below : List Frame) (meth : Method) (c : Code) (D : va_G) (cy ad : Nat → Nat) (A : Nat → Prop) (nL : Nat) (QQ : State → Prop) : mK := fun pc lv st h =>
  ∀ (H : Heap) (locs : List Loc) (ls : Array Slot), va_P D mcl (cW cy ad h) H → va_D A (cW cy ad h) → va_S A s.heap H locs → LV ad ls nL lv → W p l ev R s m args below meth c H locs 0 0 QQ (F0 m pc ls (st.map (cz ad)))
/-- a frame of a method: the machine, its code, the tables, its callees, its end -/
def mCtx (p : Program) (l : Launch) (R : Room) (s : State) (m : MethodId) (args : Array Value) (meth : Method) (c : Code) (D : va_G) (cy ad : Nat → Nat) (A : Nat → Prop) (nL d : Nat) (bb : ByteArray) (own : String) (rt : Option FieldType) (P : List mM) (cal : mC) (Q : Option Value → mH → Prop) (Qc : Array Value → State → Outcome → State → Prop) : Prop :=
  p.tables.exec = Jvm.exec ∧ c.code = bb ∧ c.maxLocals = nL ∧ meth.sig.returnType = rt ∧ s.vm.findClass own = some m.cls ∧ (∀ w ∈ Tb, w.before args s = true) ∧ meth.locks = false ∧ va_K D mcl (mty cy) s ∧ (∀ q, s.heap.size ≤ q → A q) ∧ R = mRm (d + 1) ∧ POK P ∧ mNw s ∧ (∀ M a h P', cal M a h P' → mMet l P d D cy ad M a h P') ∧
  ∀ (r : Option Value) (h : mH) (H : Heap) (locs : List Loc), Q r h → va_P D mcl (cW cy ad h) H → va_D A (cW cy ad h) → va_S A s.heap H locs → ∀ t : State, t.heap = H → s.WarmedH t.vm → Qc args s (.returned (r.map (cz ad))) t
theorem mty_at {cy : Nat → Nat} {t : Nat} (h : t < 3) : ∃ ty, (mty cy)[t]? = some (cy t, ty) := by
  rcases (show t = 0 ∨ t = 1 ∨ t = 2 by omega) with rfl | rfl | rfl
  · exact ⟨_, rfl⟩
  · exact ⟨_, rfl⟩
  · exact ⟨_, rfl⟩
theorem cE_len {cy ad : Nat → Nat} {t n : Nat} {x : (Nat → Int32) ⊕ (Nat → Int64) ⊕ (Nat → UInt32) ⊕ (Nat → UInt64) ⊕ (Nat → Option Nat)} : ∃ x', cE cy ad (.inl (t, n, x)) = .inl (cy t, n, x') := by
  rcases x with f | f | f | f | f <;> exact ⟨_, rfl⟩
theorem take_rev (st : List Value) (y : Nat) : st = ((st.take y).reverse).reverse ++ st.drop y := by rw [List.reverse_reverse, List.take_append_drop]
theorem cat_sum (ad : Nat → Nat) (st : List Value) : ((st.map (cz ad)).map fun v => v.category).sum = (st.map fun v => v.category).sum := by
  rw [List.map_map]
  congr 1
  apply List.map_congr_left
  intro v _
  exact cz_cat ad v
theorem mA_sub {h : mH} {H : Heap} {locs : List Loc} (hD : va_D A (cW cy ad h)) (hS : va_S A s.heap H locs) (hA : ∀ q, s.heap.size ≤ q → A q) : ∀ q, va_A (cW cy ad h) H.size q → A q := by
  intro q hq
  rcases hq with ⟨k, e, hk⟩ | hq
  · exact hD.2 k (q, e) hk
  · exact hA q (Nat.le_trans hS.1 hq)
theorem mPre {h : mH} {H : Heap} {a : List Value} (hP : va_P D mcl (cW cy ad h) H) (hD : va_D A (cW cy ad h)) (hK : va_K D mcl (mty cy) s) (hN : mNw s) : ∀ U : State, U.heap = H → s.WarmedH U.vm → mPc D cy ad a h H.size (a.map (cz ad)).toArray U :=
  fun U hU hW => ⟨rfl, by rw [hU], by rw [hU]; exact hP, va_K.moved hW.alike hK, hD.weaken (fun _ _ _ _ => trivial), mNw.warm hW hN⟩
theorem mGood {y : MethodName} {b : ByteArray} {mL : Nat} {r : Option FieldType} (h : Cond.code y b mL r ∈ Tb) : GoodIn Tb (.code y b mL r :: Tb) := fun w hw => by
  rcases List.mem_cons.mp hw with rfl | hw
  · exact ⟨h, Tb_good _ h⟩
  · exact ⟨hw, Tb_good _ hw⟩
theorem mRoom {mL d : Nat} (h : mL ≤ 11) : (mRm d).frames + 1 ≤ (mRm (d + 1)).frames ∧ 8 + (mL + 11) + (mRm d).locals ≤ (mRm (d + 1)).locals := by
  unfold mRm
  dsimp only
  omega
set_option maxHeartbeats 4000000 in
theorem snd_call_S (X : mCtx p l R s m args meth c D cy ad A nL d bb own rt P cal Q Qc) {QQ : State → Prop} {idx nx x y pc : Nat} {lv st : List Value} {h : mH} (hd : decode bb pc = .ok (.invokestatic idx, 3)) (hnx : nx = pc + 3) (hl : SOK P own idx x y)
    (hs : m_call (mX p l ev R s m args below meth c D cy ad A nL QQ) cal nx x y lv st h) : mX p l ev R s m args below meth c D cy ad A nL QQ pc lv st h := by
  obtain ⟨hx, hb, hml, hr, hown, hts, hlocks, hK, hA, hR, hPok, hN, hcal, hret⟩ := X
  obtain ⟨h1, h2, P', h3, h4⟩ := hs
  obtain ⟨yn, b, mL, rt', C, hM, hn, hst, hlink⟩ := hl
  obtain ⟨hcode, hini, hpl, hmh, hvh, hmL, -⟩ := hPok _ (List.mem_of_getElem? hM)
  intro H locs ls hP hD hS hL
  subst hR
  subst hnx
  have hmet := hcal _ _ _ _ h3 H.size yn b mL rt' C hM
  have hrun : va_Run p l ev (mRm (d + 1)) s m args below meth c H locs 0 0 0 0 (F0 m pc ls (st.map (cz ad))) ((st.drop y).map (cz ad)) (mQc D cy ad h H.size P' (((st.take y).reverse).map (cz ad)).toArray) (va_A (cW cy ad h) H.size) := by
    have hstk : st.map (cz ad) = (((st.take y).reverse).map (cz ad)).reverse ++ (st.drop y).map (cz ad) := by
      rw [← List.map_reverse, ← List.map_append, ← take_rev]
    have hlen : (((st.take y).reverse).map (cz ad)).length = y := by simp; omega
    rcases hlink with hlink | ⟨host, hlink⟩
    · exact va_runS (cc := bb) (nL := nL) (Ts := Tb) (own := own) (n := y) (bytes := b) (maxL := mL) (ret := rt') ⟨hx, hb, hml, hown, hts⟩ hmet ⟨callB_of y hts (mGood hcode) rfl rfl rfl (hts _ hini) (hts _ hlink) ⟨hmh, hvh, hn⟩ (mRoom hmL), hts _ hst⟩ ⟨mPc_blind, mPre hP hD hK hN⟩ rfl hlen hL.1 hstk (lv_room (by rw [cat_sum]; exact h2)) hd ⟨Nat.le_refl 0, Nat.le_refl 0⟩
    · exact va_runSN (cc := bb) (nL := nL) (Ts := Tb) (own := own) (n := y) (bytes := b) (maxL := mL) (ret := rt') ⟨hx, hb, hml, hown, hts⟩ hmet ⟨va_cnB y hts (mGood hcode) rfl rfl rfl (hN _ hlink) (hts _ hini) ⟨hmh, hvh, hn⟩ (mRoom hmL), hts _ hst, trivial⟩ ⟨mPc_blind, mPre hP hD hK hN⟩ rfl hlen hL.1 hstk (lv_room (by rw [cat_sum]; exact h2)) hd ⟨Nat.le_refl 0, Nat.le_refl 0⟩
  refine va_callg hrun hS (fun q _ hq => mA_sub hD hS hA q hq) (mA_sub hD hS hA) (fun r h' H1 locs1 hp hP1 hD1 hS1 => ?_)
  have w := h4 r h' hp H1 locs1 ls hP1 (hD1.weaken (fun _ q _ hq => mA_sub hD hS hA q.1 hq)) hS1 hL
  have e : (r.toList ++ st.drop y).map (cz ad) = (r.map (cz ad)).toList ++ (st.drop y).map (cz ad) := by
    cases r <;> simp
  rw [e] at w
  exact w
set_option maxHeartbeats 4000000 in
theorem snd_call_V (X : mCtx p l R s m args meth c D cy ad A nL d bb own rt P cal Q Qc) {QQ : State → Prop} {idx nx x y z pc : Nat} {lv st : List Value} {h : mH} (hd : decode bb pc = .ok (.invokevirtual idx, 3)) (hnx : nx = pc + 3) (hl : VOK P own idx x y z)
    (hb0 : ∃ (b : Nat) (As : List Value), (st.take y).reverse = .ref b :: As ∧ m_gO h b fun ci _ => ci = z) (hs : m_call (mX p l ev R s m args below meth c D cy ad A nL QQ) cal nx x y lv st h) : mX p l ev R s m args below meth c D cy ad A nL QQ pc lv st h := by
  obtain ⟨hx, hb, hml, hr, hown, hts, hlocks, hK, hA, hR, hPok, hN, hcal, hret⟩ := X
  obtain ⟨h1, h2, P', h3, h4⟩ := hs
  obtain ⟨yn, b, mL, rt', C, n, hM, hy, hn, hinst, hsel, ⟨T, N, hz⟩, hlink⟩ := hl
  obtain ⟨hcode, hini, hpl, hmh, hvh, hmL, -⟩ := hPok _ (List.mem_of_getElem? hM)
  obtain ⟨o, As, hAs, ho⟩ := hb0
  obtain ⟨ci, fs, ho2, hci⟩ := m_gO_inv ho
  subst hci
  intro H locs ls hP hD hS hL
  subst hR
  subst hnx
  have hmet := hcal _ _ _ _ h3 H.size yn b mL rt' C hM
  have hlen0 : ((st.take y).reverse).length = y := by simp; omega
  have hrecv := va_recv hK hP (ci := ci) (q0 := o) hz (cW_at ho2)
  have hrun : va_Run p l ev (mRm (d + 1)) s m args below meth c H locs 0 0 0 0 (F0 m pc ls (st.map (cz ad))) ((st.drop y).map (cz ad)) (mQc D cy ad h H.size P' (((st.take y).reverse).map (cz ad)).toArray) (va_A (cW cy ad h) H.size) := by
    have hstk : st.map (cz ad) = (As.map (cz ad)).reverse ++ .ref (ad o) :: (st.drop y).map (cz ad) := by
      have e1 : st.map (cz ad) = (((st.take y).reverse).map (cz ad)).reverse ++ (st.drop y).map (cz ad) := by
        rw [← List.map_reverse, ← List.map_append, ← take_rev]
      rw [e1, hAs]
      simp [cz]
    have hlen : (As.map (cz ad)).length = n := by
      rw [hAs, hy] at hlen0
      simpa using hlen0
    rw [hAs] at hmet ⊢
    rcases hlink with hlink | ⟨host, hlink⟩
    · exact va_runV (cc := bb) (nL := nL) (Ts := Tb) (own := own) (C := yn.cls) (n := n) (bytes := b) (maxL := mL) (ret := rt') (As := As.map (cz ad)) ⟨hx, hb, hml, hown, hts⟩ hmet ⟨callB_of n hts (mGood hcode) rfl rfl rfl (hts _ hini) (hts _ hlink) ⟨hmh, hvh, hn⟩ (mRoom hmL), hts _ hinst, hts _ hsel⟩ ⟨mPc_blind, hrecv, mPre (a := .ref o :: As) hP hD hK hN⟩ rfl hlen hL.1 hstk (lv_room (by rw [cat_sum]; exact h2)) hd ⟨Nat.le_refl 0, Nat.le_refl 0⟩
    · exact va_runVN (cc := bb) (nL := nL) (Ts := Tb) (own := own) (C := yn.cls) (n := n) (bytes := b) (maxL := mL) (ret := rt') (As := As.map (cz ad)) ⟨hx, hb, hml, hown, hts⟩ hmet ⟨va_cnB n hts (mGood hcode) rfl rfl rfl (hN _ hlink) (hts _ hini) ⟨hmh, hvh, hn⟩ (mRoom hmL), hts _ hinst, hts _ hsel⟩ ⟨mPc_blind, hrecv, mPre (a := .ref o :: As) hP hD hK hN⟩ rfl hlen hL.1 hstk (lv_room (by rw [cat_sum]; exact h2)) hd ⟨Nat.le_refl 0, Nat.le_refl 0⟩
  refine va_callg hrun hS (fun q _ hq => mA_sub hD hS hA q hq) (mA_sub hD hS hA) (fun r h' H1 locs1 hp hP1 hD1 hS1 => ?_)
  have w := h4 r h' hp H1 locs1 ls hP1 (hD1.weaken (fun _ q _ hq => mA_sub hD hS hA q.1 hq)) hS1 hL
  have e : (r.toList ++ st.drop y).map (cz ad) = (r.map (cz ad)).toList ++ (st.drop y).map (cz ad) := by
    cases r <;> simp
  rw [e] at w
  exact w
end STEP
end
section
section SND
variable {p : Program} {l : Launch} {ev : Env} {R : Room} {s : State} {m : MethodId} {args : Array Value} {below : List Frame} {meth : Method} {c : Code}
variable {D : va_G} {cy ad : Nat → Nat} {A : Nat → Prop} {nL d : Nat} {bb : ByteArray} {own : String} {rt : Option FieldType} {P : List mM} {cal : mC} {Q : Option Value → mH → Prop} {Qc : Array Value → State → Outcome → State → Prop}
theorem cz_null (ad : Nat → Nat) {v : Value} (h : v = .null ∨ ∃ a, v = .ref a) : v.category = 1 := by
  rcases h with rfl | ⟨a, rfl⟩ <;> rfl
set_option maxHeartbeats 8000000 in
theorem snd_step (X : mCtx p l R s m args meth c D cy ad A nL d bb own rt P cal Q Qc) {pc : Nat} {e : mE} {lv st : List Value} {h : mH} (hi : insOK P own bb pc e)
    (hs : stp (mX p l ev R s m args below meth c D cy ad A nL (MQ below Qc args s 0 0 A)) cal rt Q pc e lv st h) : mX p l ev R s m args below meth c D cy ad A nL (MQ below Qc args s 0 0 A) pc lv st h := by
  have X0 := X
  obtain ⟨hx, hb, hml, hr, hown, hts, hlocks, hK, hA, hR, hPok, hN, hcal, hret⟩ := X
  obtain ⟨i, nx, x, y, z⟩ := e
  obtain ⟨⟨len, hd, hnx, hil⟩, hlk⟩ := hi
  dsimp only at hd hnx hil
  cases i with
  | aconst_null =>
    cases hil; subst hnx
    intro H locs ls hP hD hS hL
    exact lv_null hx hb hd (hs H locs ls hP hD hS hL)
  | iconst n =>
    cases hil; subst hnx
    intro H locs ls hP hD hS hL
    exact lv_iconst hx hb hd rfl (hs H locs ls hP hD hS hL)
  | bipush n =>
    cases hil; subst hnx
    intro H locs ls hP hD hS hL
    exact lv_bipush hx hb hd rfl (hs H locs ls hP hD hS hL)
  | sipush n =>
    cases hil; subst hnx
    intro H locs ls hP hD hS hL
    exact lv_sipush hx hb hd rfl (hs H locs ls hP hD hS hL)
  | ldc_w n =>
    cases hil; subst hnx
    intro H locs ls hP hD hS hL
    exact lv_ldcw hx hb hown (hts _ hlk) hd (hs H locs ls hP hD hS hL)
  | iload j =>
    cases hil; subst hnx
    obtain ⟨a, ha, hk⟩ := m_lI_inv hs
    intro H locs ls hP hD hS hL
    exact lv_iload hx hb hd (hL.2.2.2 j _ ha rfl) (hk H locs ls hP hD hS hL)
  | iload_n j =>
    cases hil; subst hnx
    obtain ⟨a, ha, hk⟩ := m_lI_inv hs
    intro H locs ls hP hD hS hL
    exact lv_iload_n hx hb hd rfl (hL.2.2.2 j.val _ ha rfl) (hk H locs ls hP hD hS hL)
  | aload j =>
    cases hil; subst hnx
    obtain ⟨v, ha, hv, hk⟩ := m_lA_inv (f := fun v => mX p l ev R s m args below meth c D cy ad A nL (MQ below Qc args s 0 0 A) (pc + 2) lv (v :: st) h) hs
    intro H locs ls hP hD hS hL
    have h1 := hL.2.2.2 j _ ha (cz_null ad hv)
    rcases hv with rfl | ⟨a, rfl⟩
    · exact lv_aloadN hx hb hd h1 (hk H locs ls hP hD hS hL)
    · exact lv_aload hx hb hd h1 (hk H locs ls hP hD hS hL)
  | aload_n j =>
    cases hil; subst hnx
    obtain ⟨v, ha, hv, hk⟩ := m_lA_inv (f := fun v => mX p l ev R s m args below meth c D cy ad A nL (MQ below Qc args s 0 0 A) (pc + 1) lv (v :: st) h) hs
    intro H locs ls hP hD hS hL
    have h1 := hL.2.2.2 j.val _ ha (cz_null ad hv)
    rcases hv with rfl | ⟨a, rfl⟩
    · exact lv_aload_nN hx hb hd rfl h1 (hk H locs ls hP hD hS hL)
    · exact lv_aload_n hx hb hd rfl h1 (hk H locs ls hP hD hS hL)
  | istore j =>
    cases hil; subst hnx
    obtain ⟨a, r, rfl, hj, hk⟩ := m_p1_inv hs
    intro H locs ls hP hD hS hL
    exact lv_istore hx hb hd hL.has (by rw [← hL.2.2.1]; exact hj) rfl (fun ls' h' => hk H locs ls' hP hD hS (hL.put (v := .int a) rfl rfl h'))
  | istore_n j =>
    cases hil; subst hnx
    obtain ⟨a, r, rfl, hj, hk⟩ := m_p1_inv hs
    intro H locs ls hP hD hS hL
    exact lv_istore_n hx hb hd rfl hL.has (by rw [← hL.2.2.1]; exact hj) rfl (fun ls' h' => hk H locs ls' hP hD hS (hL.put (v := .int a) rfl rfl h'))
  | astore j =>
    cases hil; subst hnx
    obtain ⟨v, r, rfl, hv, hj, hk⟩ := m_pA_inv (f := fun v r => j < lv.length ∧ mX p l ev R s m args below meth c D cy ad A nL (MQ below Qc args s 0 0 A) (pc + 2) (lv.set j v) r h) hs
    intro H locs ls hP hD hS hL
    rcases hv with rfl | ⟨a, rfl⟩
    · exact lv_astoreN hx hb hd hL.has (by rw [← hL.2.2.1]; exact hj) rfl (fun ls' h' => hk H locs ls' hP hD hS (hL.put (v := .null) rfl rfl h'))
    · exact lv_astore hx hb hd hL.has (by rw [← hL.2.2.1]; exact hj) rfl (fun ls' h' => hk H locs ls' hP hD hS (hL.put (v := .ref a) rfl rfl h'))
  | astore_n j =>
    cases hil; subst hnx
    obtain ⟨v, r, rfl, hv, hj, hk⟩ := m_pA_inv (f := fun v r => j.val < lv.length ∧ mX p l ev R s m args below meth c D cy ad A nL (MQ below Qc args s 0 0 A) (pc + 1) (lv.set j.val v) r h) hs
    intro H locs ls hP hD hS hL
    rcases hv with rfl | ⟨a, rfl⟩
    · exact lv_astore_nN hx hb hd rfl hL.has (by rw [← hL.2.2.1]; exact hj) rfl (fun ls' h' => hk H locs ls' hP hD hS (hL.put (v := .null) rfl rfl h'))
    · exact lv_astore_n hx hb hd rfl hL.has (by rw [← hL.2.2.1]; exact hj) rfl (fun ls' h' => hk H locs ls' hP hD hS (hL.put (v := .ref a) rfl rfl h'))
  | iinc j n =>
    cases hil; subst hnx
    obtain ⟨a, ha, hk⟩ := m_lI_inv hs
    intro H locs ls hP hD hS hL
    obtain ⟨k, hk2⟩ := List.getElem?_of_mem (prs_mem (ad := ad) ha rfl)
    have hjl : j < lv.length := (List.getElem?_eq_some_iff.mp ha).1
    exact lv_iinc hx hb hd hL.has hk2 rfl (by rw [← hL.2.2.1]; exact hjl) rfl (fun ls' h' => hk H locs ls' hP hD hS (hL.put (v := .int (a + Int32.ofInt n)) rfl rfl h'))
  | iadd =>
    cases hil; subst hnx
    obtain ⟨a, b, r, rfl, hk⟩ := m_p2_inv hs
    intro H locs ls hP hD hS hL
    exact lv_iadd hx hb hd (hk H locs ls hP hD hS hL)
  | isub =>
    cases hil; subst hnx
    obtain ⟨a, b, r, rfl, hk⟩ := m_p2_inv hs
    intro H locs ls hP hD hS hL
    exact lv_isub hx hb hd (hk H locs ls hP hD hS hL)
  | imul =>
    cases hil; subst hnx
    obtain ⟨a, b, r, rfl, hk⟩ := m_p2_inv hs
    intro H locs ls hP hD hS hL
    exact lv_imul hx hb hd (hk H locs ls hP hD hS hL)
  | iand =>
    cases hil; subst hnx
    obtain ⟨a, b, r, rfl, hk⟩ := m_p2_inv hs
    intro H locs ls hP hD hS hL
    exact lv_iand hx hb hd (hk H locs ls hP hD hS hL)
  | ior =>
    cases hil; subst hnx
    obtain ⟨a, b, r, rfl, hk⟩ := m_p2_inv hs
    intro H locs ls hP hD hS hL
    exact lv_ior hx hb hd (hk H locs ls hP hD hS hL)
  | ixor =>
    cases hil; subst hnx
    obtain ⟨a, b, r, rfl, hk⟩ := m_p2_inv hs
    intro H locs ls hP hD hS hL
    exact lv_ixor hx hb hd (hk H locs ls hP hD hS hL)
  | idiv =>
    cases hil; subst hnx
    obtain ⟨a, b, r, rfl, hne, hk⟩ := m_p2_inv hs
    intro H locs ls hP hD hS hL
    exact lv_idiv hx hb hd hne (hk H locs ls hP hD hS hL)
  | irem =>
    cases hil; subst hnx
    obtain ⟨a, b, r, rfl, hne, hk⟩ := m_p2_inv hs
    intro H locs ls hP hD hS hL
    exact lv_irem hx hb hd hne (hk H locs ls hP hD hS hL)
  | ishl =>
    cases hil; subst hnx
    obtain ⟨a, b, r, rfl, hk⟩ := m_p2_inv hs
    intro H locs ls hP hD hS hL
    exact lv_ishl hx hb hd (hk H locs ls hP hD hS hL)
  | ishr =>
    cases hil; subst hnx
    obtain ⟨a, b, r, rfl, hk⟩ := m_p2_inv hs
    intro H locs ls hP hD hS hL
    exact lv_ishr hx hb hd (hk H locs ls hP hD hS hL)
  | iushr =>
    cases hil; subst hnx
    obtain ⟨a, b, r, rfl, hk⟩ := m_p2_inv hs
    intro H locs ls hP hD hS hL
    exact lv_iushr hx hb hd rfl (hk H locs ls hP hD hS hL)
  | i2b =>
    cases hil; subst hnx
    obtain ⟨a, r, rfl, hk⟩ := m_p1_inv hs
    intro H locs ls hP hD hS hL
    exact lv_i2b hx hb hd rfl (hk H locs ls hP hD hS hL)
  | dup =>
    cases hil; subst hnx
    obtain ⟨v, r, rfl, hv, hk⟩ := m_pV_inv hs
    intro H locs ls hP hD hS hL
    exact lv_dup hx hb hd ((cz_cat ad v).trans hv) (hk H locs ls hP hD hS hL)
  | dup2 =>
    cases hil; subst hnx
    obtain ⟨v, w, r, rfl, hv, hw, hk⟩ := m_pVV_inv hs
    intro H locs ls hP hD hS hL
    exact lv_dup2_11 hx hb hd ((cz_cat ad v).trans hv) ((cz_cat ad w).trans hw) (hk H locs ls hP hD hS hL)
  | pop =>
    cases hil; subst hnx
    obtain ⟨v, r, rfl, hv, hk⟩ := m_pV_inv hs
    intro H locs ls hP hD hS hL
    exact lv_pop hx hb hd ((cz_cat ad v).trans hv) (hk H locs ls hP hD hS hL)
  | getfield idx =>
    cases hil; subst hnx
    obtain ⟨a, r, rfl, hg⟩ := m_pR_inv hs
    obtain ⟨ci, fs, ho, hci, v, hv, hk⟩ := m_gO_inv hg
    dsimp only at hci hv hk
    subst hci
    obtain ⟨C, T, N, hc, hy, hlink⟩ := hlk
    dsimp only at hc hy hlink
    obtain ⟨hin, -⟩ := mcl_ok _ (List.mem_of_getElem? hc)
    intro H locs ls hP hD hS hL
    have hfv : (fs.map (cz ad))[y]? = some (cz ad v) := by rw [List.getElem?_map, hv]; rfl
    rcases hlink with hlink | ⟨host, hlink⟩
    · exact va_get hx hb hts hin hown hK hP a (cW_at ho) hc y hy (hts _ hlink) (fun _ h9 => h9) hfv hd (hk H locs ls hP hD hS hL)
    · exact va_getN hx hb hts hin hown hK hP a (cW_at ho) hc y hy (va_Nw.use rfl (hN _ hlink)) (fun _ h9 => h9) hfv hd (hk H locs ls hP hD hS hL)
  | putfield idx =>
    cases hil; subst hnx
    obtain ⟨v, r0, rfl, hg1⟩ := m_p1_inv hs
    obtain ⟨a, r, rfl, hg2⟩ := m_pR_inv hg1
    obtain ⟨ci, fs, ho, hci, hyl, hk⟩ := m_gO_inv hg2
    dsimp only at hci hyl hk
    subst hci
    obtain ⟨C, T, N, hc, hy, hlink, hfin, hint⟩ := hlk
    dsimp only at hc hy hlink hfin hint
    obtain ⟨hin, ty, hty, hnm⟩ := mcl_ok _ (List.mem_of_getElem? hc)
    intro H locs ls hP hD hS hL
    refine va_put hx hb hts hin ty hty hnm hown hK hP hD hS a (cW_at ho) hc y hy (hts _ hlink) (fun _ h9 => h9) hfin (v := .int v) hint rfl rfl (by rw [List.length_map]; exact hyl) hd (fun H1 locs1 hP1 hD1 hS1 => ?_)
    rw [cW_setO] at hP1 hD1
    exact hk H1 locs1 ls hP1 hD1 hS1 hL
  | iaload =>
    cases hil; subst hnx
    obtain ⟨i, r0, rfl, hg⟩ := m_p1_inv hs
    obtain ⟨a, r, rfl, hg⟩ := m_pR_inv hg
    obtain ⟨n, f, ho, hin, hk⟩ := m_gA_inv hg
    intro H locs ls hP hD hS hL
    exact va_iald hx hb hK hP a 0 (cW_at ho) rfl hin hd (hk H locs ls hP hD hS hL)
  | baload =>
    cases hil; subst hnx
    obtain ⟨i, r0, rfl, hg⟩ := m_p1_inv hs
    obtain ⟨a, r, rfl, hg⟩ := m_pR_inv hg
    obtain ⟨n, f, ho, hin, hk⟩ := m_gA_inv hg
    intro H locs ls hP hD hS hL
    exact va_bald hx hb hK hP a 1 (cW_at ho) rfl hin hd (hk H locs ls hP hD hS hL)
  | iastore =>
    cases hil; subst hnx
    obtain ⟨v, r1, rfl, hg⟩ := m_p1_inv hs
    obtain ⟨i, r0, rfl, hg⟩ := m_p1_inv hg
    obtain ⟨a, r, rfl, hg⟩ := m_pR_inv hg
    obtain ⟨n, f, ho, hin, hk⟩ := m_gA_inv hg
    intro H locs ls hP hD hS hL
    refine va_iast hx hb hK hP hD hS a 0 (cW_at ho) rfl hin hd (fun H1 locs1 hP1 hD1 hS1 => ?_)
    have e := cW_set cy ad h a (.inl (0, n, .inl (upd f i.toNatClampNeg v)))
    exact hk H1 locs1 ls (by rw [← e]; exact hP1) (by rw [← e]; exact hD1) hS1 hL
  | bastore =>
    cases hil; subst hnx
    obtain ⟨v, r1, rfl, hg⟩ := m_p1_inv hs
    obtain ⟨i, r0, rfl, hg⟩ := m_p1_inv hg
    obtain ⟨a, r, rfl, hg⟩ := m_pR_inv hg
    obtain ⟨n, f, ho, hin, hk⟩ := m_gA_inv hg
    intro H locs ls hP hD hS hL
    refine va_bast hx hb hK hP hD hS a 1 (cW_at ho) rfl hin hd (fun H1 locs1 hP1 hD1 hS1 => ?_)
    have e := cW_set cy ad h a (.inl (1, n, .inl (upd f i.toNatClampNeg (vp_nar .byte v))))
    exact hk H1 locs1 ls (by rw [← e]; exact hP1) (by rw [← e]; exact hD1) hS1 hL
  | aaload =>
    cases hil; subst hnx
    obtain ⟨i, r0, rfl, hg⟩ := m_p1_inv hs
    obtain ⟨a, r, rfl, hg⟩ := m_pR_inv hg
    obtain ⟨n, g, ho, hin, hk⟩ := m_gQ_inv hg
    intro H locs ls hP hD hS hL
    refine va_aldq hx hb hK hP a 2 (C := RX3) (f := fun j => (g j).map ad) (cW_at ho) rfl hin hd ?_
    rw [va_rf_map]
    exact hk H locs ls hP hD hS hL
  | aastore =>
    cases hil; subst hnx
    obtain ⟨v, r1, rfl, hg⟩ := m_pR_inv hs
    obtain ⟨i, r0, rfl, hg⟩ := m_p1_inv hg
    obtain ⟨a, r, rfl, hg⟩ := m_pR_inv hg
    obtain ⟨n, g, ho, hg⟩ := m_gQ_inv hg
    obtain ⟨ci, fs, hv, hci, hin, hk⟩ := m_gO_inv hg
    subst hci
    intro H locs ls hP hD hS hL
    refine va_astq hx hb hK hP hD hS a 2 v 3 (r := (RX3, TX3, 2)) (f := fun j => (g j).map ad) (cW_at ho) rfl (cW_at hv) rfl hin hd (fun H1 locs1 hP1 hD1 hS1 => ?_)
    rw [cW_setQ] at hP1 hD1
    exact hk H1 locs1 ls hP1 hD1 hS1 hL
  | arraylength =>
    cases hil; subst hnx
    obtain ⟨a, r, rfl, hg⟩ := m_pR_inv hs
    obtain ⟨t, n, x0, ho, ht, hk⟩ := m_gL_inv hg
    obtain ⟨ty, hty⟩ := mty_at (cy := cy) ht
    obtain ⟨x', hx'⟩ := cE_len (cy := cy) (ad := ad) (t := t) (n := n) (x := x0)
    intro H locs ls hP hD hS hL
    exact va_alen (x := (n, x')) hx hb hK hP a t (by rw [cW_at ho, hx']) hty rfl hd (hk H locs ls hP hD hS hL)
  | goto o =>
    cases hil; subst hnx
    intro H locs ls hP hD hS hL
    exact lv_goto hx hb hd hlk (hs H locs ls hP hD hS hL)
  | ifCond cc o =>
    cases hil; subst hnx
    cases cc <;> (obtain ⟨a, r, rfl, h1, h2⟩ := m_p1_inv hs; intro H locs ls hP hD hS hL)
    · exact lv_if_eq hx hb hd hlk (fun q => h1 q H locs ls hP hD hS hL) (fun q => h2 q H locs ls hP hD hS hL)
    · exact lv_if_ne hx hb hd hlk (fun q => h1 q H locs ls hP hD hS hL) (fun q => h2 q H locs ls hP hD hS hL)
    · exact lv_if_lt hx hb hd hlk (fun q => h1 q H locs ls hP hD hS hL) (fun q => h2 q H locs ls hP hD hS hL)
    · exact lv_if_ge hx hb hd hlk (fun q => h1 q H locs ls hP hD hS hL) (fun q => h2 q H locs ls hP hD hS hL)
    · exact lv_if_gt hx hb hd hlk (fun q => h1 q H locs ls hP hD hS hL) (fun q => h2 q H locs ls hP hD hS hL)
    · exact lv_if_le hx hb hd hlk (fun q => h1 q H locs ls hP hD hS hL) (fun q => h2 q H locs ls hP hD hS hL)
  | if_icmp cc o =>
    cases hil; subst hnx
    cases cc <;> (obtain ⟨a, b, r, rfl, h1, h2⟩ := m_p2_inv hs; intro H locs ls hP hD hS hL)
    · exact lv_icmp_eq hx hb hd hlk (fun q => h1 q H locs ls hP hD hS hL) (fun q => h2 q H locs ls hP hD hS hL)
    · exact lv_icmp_ne hx hb hd hlk (fun q => h1 q H locs ls hP hD hS hL) (fun q => h2 q H locs ls hP hD hS hL)
    · exact lv_icmp_lt hx hb hd hlk (fun q => h1 q H locs ls hP hD hS hL) (fun q => h2 q H locs ls hP hD hS hL)
    · exact lv_icmp_ge hx hb hd hlk (fun q => h1 q H locs ls hP hD hS hL) (fun q => h2 q H locs ls hP hD hS hL)
    · exact lv_icmp_gt hx hb hd hlk (fun q => h1 q H locs ls hP hD hS hL) (fun q => h2 q H locs ls hP hD hS hL)
    · exact lv_icmp_le hx hb hd hlk (fun q => h1 q H locs ls hP hD hS hL) (fun q => h2 q H locs ls hP hD hS hL)
  | ifnull o =>
    cases hil; subst hnx
    obtain ⟨v, r, rfl, hv, h1, h2⟩ := m_pA_inv (f := fun v r => (v = .null → mX p l ev R s m args below meth c D cy ad A nL (MQ below Qc args s 0 0 A) x lv r h) ∧ (¬ v = .null → mX p l ev R s m args below meth c D cy ad A nL (MQ below Qc args s 0 0 A) (pc + 3) lv r h)) hs
    intro H locs ls hP hD hS hL
    rcases hv with rfl | ⟨a, rfl⟩
    · exact lv_ifnullN hx hb hd hlk (h1 rfl H locs ls hP hD hS hL)
    · exact lv_ifnull hx hb hd (h2 (fun q => by cases q) H locs ls hP hD hS hL)
  | ifnonnull o =>
    cases hil; subst hnx
    obtain ⟨v, r, rfl, hv, h1, h2⟩ := m_pA_inv (f := fun v r => (¬ v = .null → mX p l ev R s m args below meth c D cy ad A nL (MQ below Qc args s 0 0 A) x lv r h) ∧ (v = .null → mX p l ev R s m args below meth c D cy ad A nL (MQ below Qc args s 0 0 A) (pc + 3) lv r h)) hs
    intro H locs ls hP hD hS hL
    rcases hv with rfl | ⟨a, rfl⟩
    · exact lv_ifnonnullN hx hb hd (h2 rfl H locs ls hP hD hS hL)
    · exact lv_ifnonnull hx hb hd hlk (h1 (fun q => by cases q) H locs ls hP hD hS hL)
  | tableswitch df lo hi offs =>
    obtain ⟨a, r, rfl, hk⟩ := m_p1_inv hs
    obtain ⟨g1, g2, g3⟩ := hlk
    intro H locs ls hP hD hS hL
    have w := hk H locs ls hP hD hS hL
    unfold m_sw at w
    split at w
    next hq => exact lv_tableOut hx hb hd hq (by omega) w
    next hq =>
      have hlo : ¬ a.toInt < lo := fun q => hq (Or.inl q)
      have hhi : ¬ hi < a.toInt := fun q => hq (Or.inr q)
      have hlt : (a.toInt - lo).toNat < offs.size := by omega
      have he : offs[(a.toInt - lo).toNat]? = some offs[(a.toInt - lo).toNat] := Array.getElem?_eq_getElem hlt
      rw [he] at w
      have hnn := g3 _ (Array.getElem_mem_toList hlt)
      refine lv_tableIn hx hb hd hlo hhi he ?_ w
      show (pc : Int) + offs[(a.toInt - lo).toNat] = (((pc : Int) + offs[(a.toInt - lo).toNat]).toNat : Int)
      omega
  | lookupswitch df ps =>
    obtain ⟨a, r, rfl, hk⟩ := m_p1_inv hs
    obtain ⟨g1, g2, g3⟩ := hlk
    intro H locs ls hP hD hS hL
    have w := hk H locs ls hP hD hS hL
    have hnn := lk_nonneg ps.toList df a.toInt pc g1 g3
    refine lv_lookup hx hb hd g2 rfl ?_ w
    unfold m_lk
    omega
  | ireturn =>
    cases hil; subst hnx
    obtain ⟨a, r, rfl, rfl, hrt, hq⟩ := m_p1_inv hs
    intro H locs ls hP hD hS hL
    unfold m_rt at hrt
    split at hrt
    · exact W.iret (free := A) hx hb hr (fun t ht hW => hret _ _ _ _ hq hP hD hS t ht hW) hS.2.2 hd
    · refine W.zret (free := A) (ty := .boolean) hx hb hr ?_ (fun t ht hW => hret _ _ _ _ hq hP hD hS t ht hW) hS.2.2 hd
      rcases hrt with rfl | rfl
      · decide
      · decide
    · exact hrt.elim
  | areturn =>
    cases hil; subst hnx
    obtain ⟨v, r, rfl, hv, rfl, hra, hq⟩ := m_pA_inv (f := fun v r => r = [] ∧ m_ra rt ∧ Q (some v) h) hs
    intro H locs ls hP hD hS hL
    unfold m_ra at hra
    split at hra
    · refine W.aret (free := A) hx hb hr (Or.inl ⟨_, rfl⟩) ?_ (fun t ht hW => hret _ _ _ _ hq hP hD hS t ht hW) hS.2.2 hd
      rcases hv with rfl | ⟨a, rfl⟩
      · exact Or.inl rfl
      · exact Or.inr ⟨_, rfl⟩
    · exact hra.elim
  | return_ =>
    cases hil; subst hnx
    obtain ⟨rfl, hrt, hq⟩ := hs
    intro H locs ls hP hD hS hL
    exact W.vret (free := A) hx hb (hr.trans hrt) (fun t ht hW => hret _ _ _ _ hq hP hD hS t ht hW) hS.2.2 hd
  | invokestatic idx =>
    cases hil
    have hs1 : m_stat (mX p l ev R s m args below meth c D cy ad A nL (MQ below Qc args s 0 0 A)) cal nx x y z lv st h := hs
    have hlk1 : TOK P own idx x y z := hlk
    unfold m_stat at hs1
    unfold TOK at hlk1
    split at hs1
    next => exact snd_call_S X0 hd hnx hlk1 hs1
    next =>
      obtain ⟨a, b, r, rfl, hsum, hk⟩ := m_p2_inv hs1
      obtain ⟨g1, g2, g3, g4⟩ := hlk1
      subst hnx
      intro H locs ls hP hD hS hL
      refine va_mmax hx hb (hml.trans hL.1.symm) hown (hts _ g1) (hts _ g2) (hts _ g3) (hts _ g4) (by rw [hR]; show 1 ≤ d + 1; omega) ?_ (Nat.zero_le _) (Nat.zero_le _) hd (hk H locs ls hP hD hS hL)
      rw [cat_sum, hR]
      show _ ≤ (d + 1) * 30
      omega
    next hz0 hz1 =>
      obtain ⟨a, b, r, rfl, hsum, hk⟩ := m_p2_inv hs1
      split at hlk1
      next => exact absurd rfl hz0
      next => exact absurd rfl hz1
      next =>
        obtain ⟨g1, g2, g3, g4⟩ := hlk1
        subst hnx
        intro H locs ls hP hD hS hL
        refine va_mmin hx hb (hml.trans hL.1.symm) hown (hts _ g1) (hts _ g2) (hts _ g3) (hts _ g4) (by rw [hR]; show 1 ≤ d + 1; omega) ?_ (Nat.zero_le _) (Nat.zero_le _) hd (hk H locs ls hP hD hS hL)
        rw [cat_sum, hR]
        show _ ≤ (d + 1) * 30
        omega
  | invokevirtual idx =>
    cases hil
    exact snd_call_V X0 hd hnx hlk hs.1 hs.2
  | _ => exact hs.elim
end SND
end
section
theorem hs_room (ws : List Cond) (rm : Room) : (headSpec ws rm).room = rm := rfl
set_option maxHeartbeats 400000 in
theorem snd_one {l : Launch} {P : List mM} (hPok : POK P) (d : Nat) (D : va_G) (cy ad : Nat → Nat) (hcal : ∀ (M : Nat) (a : List Value) (h : mH) (Q : Option Value → mH → Prop), Rn P d M a h Q → mMet l P d D cy ad M a h Q)
    (TT : List Cond) (hTT : TT = Tb) (a : List Value) (h : mH) (Q : Option Value → mH → Prop) (sz : Nat) (y : MethodName) (b : ByteArray) (mL : Nat) (rt : Option FieldType) (C : List (Nat × mE)) (hq : mOK P (y, b, mL, rt, C)) (hc : m_c1 a = true) (hlen : a.length ≤ mL) (hw : WP (Rn P d) C rt Q 0 (a ++ List.replicate (mL - a.length) (.long 0)) [] h) :
    Met l y (.code y b mL rt :: TT) (mRm (d + 1)) (mPc D cy ad a h sz) (mQc D cy ad h sz Q) 0 0 (va_A (cW cy ad h) sz) := by
  obtain ⟨hcode, hini, hpl, hmh, hvh, hmL, hins⟩ := hq
  dsimp only at hcode hini hpl hmh hvh hmL hins
  refine Met.ofW (cc := b) (maxL := mL) (ret := rt) hpl rfl ?_
  intro p e s m args below meth c s₁ B hml hv
  obtain ⟨rfl, hsz, hP, hK, hD0, hN⟩ := hv
  have hts0 := atoms_spec (ws := .code y b mL rt :: TT) B.pre
  have hts : ∀ w ∈ Tb, w.before (a.map (cz ad)).toArray s = true := fun w hw => hts0 w (List.mem_cons_of_mem _ (by rw [hTT]; exact hw))
  have hown : s.vm.findClass y.cls = some m.cls := findClass_of_methodNamed B.named
  subst hsz
  have hD := hD0.self (sz := s.heap.size)
  rw [lg_entry_eq, hs_room]
  refine hw (mX p l e (mRm (d + 1)) s m (a.map (cz ad)).toArray below meth c D cy ad (va_A (cW cy ad h) s.heap.size) mL (MQ below (mQc D cy ad h s.heap.size Q) (a.map (cz ad)).toArray s 0 0 (va_A (cW cy ad h) s.heap.size))) ?_ s.heap [] _ hP hD va_S.rf (LV.entry hc hlen)
  intro pc lv st h2 e2 hf hs
  have hret : ∀ (r : Option Value) (h3 : mH) (H : Heap) (locs : List Loc), Q r h3 → va_P D mcl (cW cy ad h3) H → va_D (va_A (cW cy ad h) s.heap.size) (cW cy ad h3) → va_S (va_A (cW cy ad h) s.heap.size) s.heap H locs → ∀ t : State, t.heap = H → s.WarmedH t.vm → mQc D cy ad h s.heap.size Q (a.map (cz ad)).toArray s (.returned (r.map (cz ad))) t := by
    intro r h3 H locs hq hP3 hD3 hS3 t ht hW
    exact ⟨⟨r, h3, rfl, hq, by rw [ht]; exact hP3, va_K.moved hW.alike hK, hD3⟩, hS3.F ht⟩
  have X : mCtx p l (mRm (d + 1)) s m (a.map (cz ad)).toArray meth c D cy ad (va_A (cW cy ad h) s.heap.size) mL d b y.cls rt P (Rn P d) Q (mQc D cy ad h s.heap.size Q) := by
    unfold mCtx
    exact ⟨B.exec, B.bytes, hml, B.returns, hown, hts, B.notSynchronized, hK, fun q hq => Or.inr hq, rfl, hPok, hN, hcal, hret⟩
  exact snd_step X (hins (pc, e2) (mfetch_mem hf)) hs
set_option maxHeartbeats 400000 in
/-- SOUND: a run of the abstract machine is a contract of the machine -/
theorem snd_run {l : Launch} {P : List mM} (hPok : POK P) (D : va_G) (cy ad : Nat → Nat) (d : Nat) : ∀ (M : Nat) (a : List Value) (h : mH) (Q : Option Value → mH → Prop), Rn P d M a h Q → mMet l P d D cy ad M a h Q := by
  induction d with
  | zero =>
    intro M a h Q hr
    exact hr.elim
  | succ d ih =>
    intro M a h Q hr sz y b mL rt C hM
    unfold Rn at hr
    rw [hM] at hr
    exact snd_one hPok d D cy ad ih Tb rfl a h Q sz y b mL rt C (hPok _ (List.mem_of_getElem? hM)) hr.1 (Nat.le_of_ble_eq_true hr.2.1) hr.2.2
end
section
/-! the methods' tables (printed by wip/whole/gen.py) -/
def k_Bars_empty : List (Nat × mE) := [(0, .aload_n 0, 1, 0, 0, 0), (1, .iconst 0, 2, 0, 0, 0), (2, .putfield 18, 5, 0, 2, 0), (5, .aload_n 0, 6, 0, 0, 0), (6, .iconst 0, 7, 0, 0, 0), (7, .putfield 22, 10, 0, 3, 0), (10, .return_, 11, 0, 0, 0)]
def k_Bars_size : List (Nat × mE) := [(0, .aload_n 0, 1, 0, 0, 0), (1, .getfield 18, 4, 0, 2, 0), (4, .ireturn, 5, 0, 0, 0)]
def k_Bars_open : List (Nat × mE) := [(0, .aload_n 0, 1, 0, 0, 0), (1, .getfield 22, 4, 0, 3, 0), (4, .ireturn, 5, 0, 0, 0)]
def k_Bars_add : List (Nat × mE) := [(0, .aload_n 0, 1, 0, 0, 0), (1, .getfield 18, 4, 0, 2, 0), (4, .ifCond .lt 27, 7, 31, 0, 0), (7, .aload_n 0, 8, 0, 0, 0), (8, .getfield 18, 11, 0, 2, 0), (11, .aload_n 0, 12, 0, 0, 0), (12, .getfield 9, 15, 0, 0, 0), (15, .arraylength, 16, 0, 0, 0), (16, .if_icmp .ge 15, 19, 31, 0, 0), (19, .aload_n 0, 20, 0, 0, 0), (20, .getfield 18, 23, 0, 2, 0), (23, .aload_n 0, 24, 0, 0, 0), (24, .getfield 15, 27, 0, 1, 0), (27, .arraylength, 28, 0, 0, 0), (28, .if_icmp .lt 4, 31, 32, 0, 0), (31, .return_, 32, 0, 0, 0), (32, .aload_n 0, 33, 0, 0, 0), (33, .getfield 18, 36, 0, 2, 0), (36, .istore_n 3, 37, 0, 0, 0), (37, .iload_n 3, 38, 0, 0, 0), (38, .ifCond .le 49, 41, 87, 0, 0), (41, .aload_n 0, 42, 0, 0, 0), (42, .iload_n 3, 43, 0, 0, 0), (43, .iconst 1, 44, 0, 0, 0), (44, .isub, 45, 0, 0, 0), (45, .iload_n 1, 46, 0, 0, 0), (46, .iload_n 2, 47, 0, 0, 0), (47, .invokevirtual 25, 50, 12, 4, 0), (50, .ifCond .le 37, 53, 87, 0, 0), (53, .aload_n 0, 54, 0, 0, 0), (54, .getfield 9, 57, 0, 0, 0), (57, .iload_n 3, 58, 0, 0, 0), (58, .aload_n 0, 59, 0, 0, 0), (59, .getfield 9, 62, 0, 0, 0), (62, .iload_n 3, 63, 0, 0, 0), (63, .iconst 1, 64, 0, 0, 0), (64, .isub, 65, 0, 0, 0), (65, .iaload, 66, 0, 0, 0), (66, .iastore, 67, 0, 0, 0), (67, .aload_n 0, 68, 0, 0, 0), (68, .getfield 15, 71, 0, 1, 0), (71, .iload_n 3, 72, 0, 0, 0), (72, .aload_n 0, 73, 0, 0, 0), (73, .getfield 15, 76, 0, 1, 0), (76, .iload_n 3, 77, 0, 0, 0), (77, .iconst 1, 78, 0, 0, 0), (78, .isub, 79, 0, 0, 0), (79, .iaload, 80, 0, 0, 0), (80, .iastore, 81, 0, 0, 0), (81, .iinc 3 (-1), 84, 0, 0, 0), (84, .goto (-47), 87, 37, 0, 0), (87, .aload_n 0, 88, 0, 0, 0), (88, .getfield 9, 91, 0, 0, 0), (91, .iload_n 3, 92, 0, 0, 0), (92, .iload_n 1, 93, 0, 0, 0), (93, .iastore, 94, 0, 0, 0), (94, .aload_n 0, 95, 0, 0, 0), (95, .getfield 15, 98, 0, 1, 0), (98, .iload_n 3, 99, 0, 0, 0), (99, .iload_n 2, 100, 0, 0, 0), (100, .iastore, 101, 0, 0, 0), (101, .aload_n 0, 102, 0, 0, 0), (102, .dup, 103, 0, 0, 0), (103, .getfield 18, 106, 0, 2, 0), (106, .iconst 1, 107, 0, 0, 0), (107, .iadd, 108, 0, 0, 0), (108, .putfield 18, 111, 0, 2, 0), (111, .iload_n 2, 112, 0, 0, 0), (112, .bipush 99, 114, 0, 0, 0), (114, .if_icmp .ne 13, 117, 127, 0, 0), (117, .aload_n 0, 118, 0, 0, 0), (118, .dup, 119, 0, 0, 0), (119, .getfield 22, 122, 0, 3, 0), (122, .iconst 1, 123, 0, 0, 0), (123, .iadd, 124, 0, 0, 0), (124, .putfield 22, 127, 0, 3, 0), (127, .return_, 128, 0, 0, 0)]
def k_Bars_beginOf : List (Nat × mE) := [(0, .iload_n 1, 1, 0, 0, 0), (1, .ifCond .lt 29, 4, 30, 0, 0), (4, .iload_n 1, 5, 0, 0, 0), (5, .aload_n 0, 6, 0, 0, 0), (6, .getfield 18, 9, 0, 2, 0), (9, .if_icmp .ge 21, 12, 30, 0, 0), (12, .iload_n 1, 13, 0, 0, 0), (13, .aload_n 0, 14, 0, 0, 0), (14, .getfield 9, 17, 0, 0, 0), (17, .arraylength, 18, 0, 0, 0), (18, .if_icmp .ge 12, 21, 30, 0, 0), (21, .aload_n 0, 22, 0, 0, 0), (22, .getfield 9, 25, 0, 0, 0), (25, .iload_n 1, 26, 0, 0, 0), (26, .iaload, 27, 0, 0, 0), (27, .goto 5, 30, 32, 0, 0), (30, .bipush (-4), 32, 0, 0, 0), (32, .ireturn, 33, 0, 0, 0)]
def k_Bars_endOf : List (Nat × mE) := [(0, .iload_n 1, 1, 0, 0, 0), (1, .ifCond .lt 29, 4, 30, 0, 0), (4, .iload_n 1, 5, 0, 0, 0), (5, .aload_n 0, 6, 0, 0, 0), (6, .getfield 18, 9, 0, 2, 0), (9, .if_icmp .ge 21, 12, 30, 0, 0), (12, .iload_n 1, 13, 0, 0, 0), (13, .aload_n 0, 14, 0, 0, 0), (14, .getfield 15, 17, 0, 1, 0), (17, .arraylength, 18, 0, 0, 0), (18, .if_icmp .ge 12, 21, 30, 0, 0), (21, .aload_n 0, 22, 0, 0, 0), (22, .getfield 15, 25, 0, 1, 0), (25, .iload_n 1, 26, 0, 0, 0), (26, .iaload, 27, 0, 0, 0), (27, .goto 5, 30, 32, 0, 0), (30, .bipush (-4), 32, 0, 0, 0), (32, .ireturn, 33, 0, 0, 0)]
def k_Bars_lengthOf : List (Nat × mE) := [(0, .aload_n 0, 1, 0, 0, 0), (1, .iload_n 1, 2, 0, 0, 0), (2, .iload_n 2, 3, 0, 0, 0), (3, .invokevirtual 29, 6, 11, 3, 0), (6, .iconst 1, 7, 0, 0, 0), (7, .iadd, 8, 0, 0, 0), (8, .aload_n 0, 9, 0, 0, 0), (9, .iload_n 1, 10, 0, 0, 0), (10, .invokevirtual 33, 13, 4, 2, 0), (13, .isub, 14, 0, 0, 0), (14, .ireturn, 15, 0, 0, 0)]
def k_Bars_longest : List (Nat × mE) := [(0, .iconst 0, 1, 0, 0, 0), (1, .istore_n 2, 2, 0, 0, 0), (2, .iconst 0, 3, 0, 0, 0), (3, .istore_n 3, 4, 0, 0, 0), (4, .iload_n 3, 5, 0, 0, 0), (5, .aload_n 0, 6, 0, 0, 0), (6, .getfield 18, 9, 0, 2, 0), (9, .if_icmp .ge 20, 12, 29, 0, 0), (12, .iload_n 2, 13, 0, 0, 0), (13, .aload_n 0, 14, 0, 0, 0), (14, .iload_n 3, 15, 0, 0, 0), (15, .iload_n 1, 16, 0, 0, 0), (16, .invokevirtual 37, 19, 6, 3, 0), (19, .invokestatic 40, 22, 0, 2, 1), (22, .istore_n 2, 23, 0, 0, 0), (23, .iinc 3 1, 26, 0, 0, 0), (26, .goto (-22), 29, 4, 0, 0), (29, .iload_n 2, 30, 0, 0, 0), (30, .ireturn, 31, 0, 0, 0)]
def k_Bars_atLeast : List (Nat × mE) := [(0, .iconst 0, 1, 0, 0, 0), (1, .istore_n 3, 2, 0, 0, 0), (2, .iconst 0, 3, 0, 0, 0), (3, .istore 4, 5, 0, 0, 0), (5, .iload 4, 7, 0, 0, 0), (7, .aload_n 0, 8, 0, 0, 0), (8, .getfield 18, 11, 0, 2, 0), (11, .if_icmp .ge 23, 14, 34, 0, 0), (14, .aload_n 0, 15, 0, 0, 0), (15, .iload 4, 17, 0, 0, 0), (17, .iload_n 2, 18, 0, 0, 0), (18, .invokevirtual 37, 21, 6, 3, 0), (21, .iload_n 1, 22, 0, 0, 0), (22, .if_icmp .lt 6, 25, 28, 0, 0), (25, .iinc 3 1, 28, 0, 0, 0), (28, .iinc 4 1, 31, 0, 0, 0), (31, .goto (-26), 34, 5, 0, 0), (34, .iload_n 3, 35, 0, 0, 0), (35, .ireturn, 36, 0, 0, 0)]
def k_Bars_spanning : List (Nat × mE) := [(0, .iconst 0, 1, 0, 0, 0), (1, .istore 4, 3, 0, 0, 0), (3, .iconst 0, 4, 0, 0, 0), (4, .istore 5, 6, 0, 0, 0), (6, .iload 5, 8, 0, 0, 0), (8, .aload_n 0, 9, 0, 0, 0), (9, .getfield 18, 12, 0, 2, 0), (12, .if_icmp .ge 33, 15, 45, 0, 0), (15, .aload_n 0, 16, 0, 0, 0), (16, .iload 5, 18, 0, 0, 0), (18, .invokevirtual 33, 21, 4, 2, 0), (21, .iload_n 1, 22, 0, 0, 0), (22, .if_icmp .gt 17, 25, 39, 0, 0), (25, .aload_n 0, 26, 0, 0, 0), (26, .iload 5, 28, 0, 0, 0), (28, .iload_n 3, 29, 0, 0, 0), (29, .invokevirtual 29, 32, 11, 3, 0), (32, .iload_n 2, 33, 0, 0, 0), (33, .if_icmp .lt 6, 36, 39, 0, 0), (36, .iinc 4 1, 39, 0, 0, 0), (39, .iinc 5 1, 42, 0, 0, 0), (42, .goto (-36), 45, 6, 0, 0), (45, .iload 4, 47, 0, 0, 0), (47, .ireturn, 48, 0, 0, 0)]
def k_Bars_withoutPartnerIn : List (Nat × mE) := [(0, .iconst 0, 1, 0, 0, 0), (1, .istore_n 2, 2, 0, 0, 0), (2, .iconst 0, 3, 0, 0, 0), (3, .istore_n 3, 4, 0, 0, 0), (4, .iconst 0, 5, 0, 0, 0), (5, .istore 4, 7, 0, 0, 0), (7, .iload_n 3, 8, 0, 0, 0), (8, .aload_n 0, 9, 0, 0, 0), (9, .getfield 18, 12, 0, 2, 0), (12, .if_icmp .ge 58, 15, 70, 0, 0), (15, .iload 4, 17, 0, 0, 0), (17, .aload_n 1, 18, 0, 0, 0), (18, .getfield 18, 21, 0, 2, 0), (21, .if_icmp .ge 49, 24, 70, 0, 0), (24, .aload_n 0, 25, 0, 0, 0), (25, .iload_n 3, 26, 0, 0, 0), (26, .aload_n 1, 27, 0, 0, 0), (27, .iload 4, 29, 0, 0, 0), (29, .invokevirtual 33, 32, 4, 2, 0), (32, .aload_n 1, 33, 0, 0, 0), (33, .iload 4, 35, 0, 0, 0), (35, .invokevirtual 45, 38, 5, 2, 0), (38, .invokevirtual 25, 41, 12, 4, 0), (41, .istore 5, 43, 0, 0, 0), (43, .iload 5, 45, 0, 0, 0), (45, .ifCond .ne 6, 48, 51, 0, 0), (48, .iinc 2 1, 51, 0, 0, 0), (51, .iload 5, 53, 0, 0, 0), (53, .ifCond .gt 6, 56, 59, 0, 0), (56, .iinc 3 1, 59, 0, 0, 0), (59, .iload 5, 61, 0, 0, 0), (61, .ifCond .lt 6, 64, 67, 0, 0), (64, .iinc 4 1, 67, 0, 0, 0), (67, .goto (-60), 70, 7, 0, 0), (70, .aload_n 0, 71, 0, 0, 0), (71, .getfield 18, 74, 0, 2, 0), (74, .iload_n 2, 75, 0, 0, 0), (75, .isub, 76, 0, 0, 0), (76, .ireturn, 77, 0, 0, 0)]
def k_Bars_lastOf : List (Nat × mE) := [(0, .aload_n 0, 1, 0, 0, 0), (1, .iload_n 1, 2, 0, 0, 0), (2, .invokevirtual 45, 5, 5, 2, 0), (5, .istore_n 3, 6, 0, 0, 0), (6, .iload_n 3, 7, 0, 0, 0), (7, .bipush 99, 9, 0, 0, 0), (9, .if_icmp .ne 7, 12, 16, 0, 0), (12, .iload_n 2, 13, 0, 0, 0), (13, .goto 6, 16, 19, 0, 0), (16, .iload_n 3, 17, 0, 0, 0), (17, .iconst 1, 18, 0, 0, 0), (18, .isub, 19, 0, 0, 0), (19, .ireturn, 20, 0, 0, 0)]
def k_Bars_compare : List (Nat × mE) := [(0, .aload_n 0, 1, 0, 0, 0), (1, .iload_n 1, 2, 0, 0, 0), (2, .invokevirtual 33, 5, 4, 2, 0), (5, .iload_n 2, 6, 0, 0, 0), (6, .invokestatic 48, 9, 161, 2, 0), (9, .istore 4, 11, 0, 0, 0), (11, .iload 4, 13, 0, 0, 0), (13, .ifCond .eq 8, 16, 21, 0, 0), (16, .iload 4, 18, 0, 0, 0), (18, .goto 12, 21, 30, 0, 0), (21, .aload_n 0, 22, 0, 0, 0), (22, .iload_n 1, 23, 0, 0, 0), (23, .invokevirtual 45, 26, 5, 2, 0), (26, .iload_n 3, 27, 0, 0, 0), (27, .invokestatic 48, 30, 161, 2, 0), (30, .ireturn, 31, 0, 0, 0)]
def k_Kin_empty : List (Nat × mE) := [(0, .aload_n 0, 1, 0, 0, 0), (1, .getfield 9, 4, 1, 0, 0), (4, .iconst 0, 5, 0, 0, 0), (5, .invokestatic 24, 8, 164, 2, 0), (8, .aload_n 0, 9, 0, 0, 0), (9, .getfield 15, 12, 1, 1, 0), (12, .iconst 0, 13, 0, 0, 0), (13, .invokestatic 24, 16, 164, 2, 0), (16, .return_, 17, 0, 0, 0)]
def k_Kin_rootOf : List (Nat × mE) := [(0, .iload_n 1, 1, 0, 0, 0), (1, .invokestatic 30, 4, 98, 1, 0), (4, .ifCond .eq 12, 7, 16, 0, 0), (7, .aload_n 0, 8, 0, 0, 0), (8, .getfield 9, 11, 1, 0, 0), (11, .iload_n 1, 12, 0, 0, 0), (12, .iaload, 13, 0, 0, 0), (13, .goto 4, 16, 17, 0, 0), (16, .iconst 0, 17, 0, 0, 0), (17, .ireturn, 18, 0, 0, 0)]
def k_Kin_sinceOf : List (Nat × mE) := [(0, .iload_n 1, 1, 0, 0, 0), (1, .invokestatic 30, 4, 98, 1, 0), (4, .ifCond .eq 24, 7, 28, 0, 0), (7, .iload_n 2, 8, 0, 0, 0), (8, .invokestatic 30, 11, 98, 1, 0), (11, .ifCond .eq 17, 14, 28, 0, 0), (14, .aload_n 0, 15, 0, 0, 0), (15, .getfield 15, 18, 1, 1, 0), (18, .iload_n 1, 19, 0, 0, 0), (19, .bipush 9, 21, 0, 0, 0), (21, .imul, 22, 0, 0, 0), (22, .iload_n 2, 23, 0, 0, 0), (23, .iadd, 24, 0, 0, 0), (24, .iaload, 25, 0, 0, 0), (25, .goto 4, 28, 29, 0, 0), (28, .iconst 0, 29, 0, 0, 0), (29, .ireturn, 30, 0, 0, 0)]
def k_Kin_come : List (Nat × mE) := [(0, .iload_n 1, 1, 0, 0, 0), (1, .invokestatic 30, 4, 98, 1, 0), (4, .ifCond .eq 10, 7, 14, 0, 0), (7, .aload_n 0, 8, 0, 0, 0), (8, .getfield 9, 11, 1, 0, 0), (11, .iload_n 1, 12, 0, 0, 0), (12, .iload_n 2, 13, 0, 0, 0), (13, .iastore, 14, 0, 0, 0), (14, .return_, 15, 0, 0, 0)]
def k_Kin_go : List (Nat × mE) := [(0, .iconst 0, 1, 0, 0, 0), (1, .istore_n 2, 2, 0, 0, 0), (2, .iload_n 2, 3, 0, 0, 0), (3, .bipush 9, 5, 0, 0, 0), (5, .if_icmp .ge 16, 8, 21, 0, 0), (8, .aload_n 0, 9, 0, 0, 0), (9, .iload_n 2, 10, 0, 0, 0), (10, .iload_n 1, 11, 0, 0, 0), (11, .iconst 0, 12, 0, 0, 0), (12, .invokevirtual 34, 15, 24, 4, 1), (15, .iinc 2 1, 18, 0, 0, 0), (18, .goto (-16), 21, 2, 0, 0), (21, .iload_n 1, 22, 0, 0, 0), (22, .invokestatic 30, 25, 98, 1, 0), (25, .ifCond .eq 10, 28, 35, 0, 0), (28, .aload_n 0, 29, 0, 0, 0), (29, .getfield 9, 32, 1, 0, 0), (32, .iload_n 1, 33, 0, 0, 0), (33, .iconst 0, 34, 0, 0, 0), (34, .iastore, 35, 0, 0, 0), (35, .return_, 36, 0, 0, 0)]
def k_Kin_part : List (Nat × mE) := [(0, .iconst 0, 1, 0, 0, 0), (1, .istore 4, 3, 0, 0, 0), (3, .iload 4, 5, 0, 0, 0), (5, .bipush 9, 7, 0, 0, 0), (7, .if_icmp .ge 26, 10, 33, 0, 0), (10, .iload_n 1, 11, 0, 0, 0), (11, .iload 4, 13, 0, 0, 0), (13, .invokestatic 38, 16, 99, 2, 0), (16, .ifCond .eq 11, 19, 27, 0, 0), (19, .aload_n 0, 20, 0, 0, 0), (20, .iload 4, 22, 0, 0, 0), (22, .iload_n 2, 23, 0, 0, 0), (23, .iload_n 3, 24, 0, 0, 0), (24, .invokevirtual 42, 27, 23, 4, 1), (27, .iinc 4 1, 30, 0, 0, 0), (30, .goto (-27), 33, 3, 0, 0), (33, .return_, 34, 0, 0, 0)]
def k_Kin_beginOfGoing : List (Nat × mE) := [(0, .iconst 0, 1, 0, 0, 0), (1, .istore_n 3, 2, 0, 0, 0), (2, .iconst 0, 3, 0, 0, 0), (3, .istore 4, 5, 0, 0, 0), (5, .iload 4, 7, 0, 0, 0), (7, .bipush 9, 9, 0, 0, 0), (9, .if_icmp .ge 30, 12, 39, 0, 0), (12, .iload_n 2, 13, 0, 0, 0), (13, .iload 4, 15, 0, 0, 0), (15, .invokestatic 38, 18, 99, 2, 0), (18, .ifCond .eq 15, 21, 33, 0, 0), (21, .iload_n 3, 22, 0, 0, 0), (22, .aload_n 0, 23, 0, 0, 0), (23, .iload_n 1, 24, 0, 0, 0), (24, .iload 4, 26, 0, 0, 0), (26, .invokevirtual 45, 29, 15, 3, 1), (29, .invokestatic 49, 32, 0, 2, 1), (32, .istore_n 3, 33, 0, 0, 0), (33, .iinc 4 1, 36, 0, 0, 0), (36, .goto (-31), 39, 5, 0, 0), (39, .iload_n 3, 40, 0, 0, 0), (40, .ifCond .le 7, 43, 47, 0, 0), (43, .iload_n 3, 44, 0, 0, 0), (44, .goto 8, 47, 52, 0, 0), (47, .aload_n 0, 48, 0, 0, 0), (48, .iload_n 1, 49, 0, 0, 0), (49, .invokevirtual 54, 52, 14, 2, 1), (52, .ireturn, 53, 0, 0, 0)]
def k_Kin_beginOfJoining : List (Nat × mE) := [(0, .aload_n 0, 1, 0, 0, 0), (1, .iload_n 1, 2, 0, 0, 0), (2, .iload_n 2, 3, 0, 0, 0), (3, .invokevirtual 45, 6, 15, 3, 1), (6, .istore_n 3, 7, 0, 0, 0), (7, .iload_n 3, 8, 0, 0, 0), (8, .ifCond .le 7, 11, 15, 0, 0), (11, .iload_n 3, 12, 0, 0, 0), (12, .goto 16, 15, 28, 0, 0), (15, .aload_n 0, 16, 0, 0, 0), (16, .iload_n 1, 17, 0, 0, 0), (17, .invokevirtual 54, 20, 14, 2, 1), (20, .aload_n 0, 21, 0, 0, 0), (21, .iload_n 2, 22, 0, 0, 0), (22, .invokevirtual 54, 25, 14, 2, 1), (25, .invokestatic 49, 28, 0, 2, 1), (28, .ireturn, 29, 0, 0, 0)]
def k_Kin_join : List (Nat × mE) := [(0, .aload_n 0, 1, 0, 0, 0), (1, .iload_n 1, 2, 0, 0, 0), (2, .iload_n 2, 3, 0, 0, 0), (3, .invokevirtual 45, 6, 15, 3, 1), (6, .istore 4, 8, 0, 0, 0), (8, .iconst 0, 9, 0, 0, 0), (9, .istore 5, 11, 0, 0, 0), (11, .iload 5, 13, 0, 0, 0), (13, .bipush 9, 15, 0, 0, 0), (15, .if_icmp .ge 63, 18, 78, 0, 0), (18, .aload_n 0, 19, 0, 0, 0), (19, .getfield 18, 22, 1, 2, 0), (22, .iload 5, 24, 0, 0, 0), (24, .iload_n 3, 25, 0, 0, 0), (25, .iload 5, 27, 0, 0, 0), (27, .invokestatic 38, 30, 99, 2, 0), (30, .ifCond .eq 7, 33, 37, 0, 0), (33, .iconst 0, 34, 0, 0, 0), (34, .goto 10, 37, 44, 0, 0), (37, .aload_n 0, 38, 0, 0, 0), (38, .iload_n 1, 39, 0, 0, 0), (39, .iload 5, 41, 0, 0, 0), (41, .invokevirtual 45, 44, 15, 3, 1), (44, .iastore, 45, 0, 0, 0), (45, .aload_n 0, 46, 0, 0, 0), (46, .getfield 21, 49, 1, 3, 0), (49, .iload 5, 51, 0, 0, 0), (51, .iload_n 3, 52, 0, 0, 0), (52, .iload 5, 54, 0, 0, 0), (54, .invokestatic 38, 57, 99, 2, 0), (57, .ifCond .eq 7, 60, 64, 0, 0), (60, .iconst 0, 61, 0, 0, 0), (61, .goto 10, 64, 71, 0, 0), (64, .aload_n 0, 65, 0, 0, 0), (65, .iload_n 2, 66, 0, 0, 0), (66, .iload 5, 68, 0, 0, 0), (68, .invokevirtual 45, 71, 15, 3, 1), (71, .iastore, 72, 0, 0, 0), (72, .iinc 5 1, 75, 0, 0, 0), (75, .goto (-64), 78, 11, 0, 0), (78, .iload 4, 80, 0, 0, 0), (80, .ifCond .ne 21, 83, 101, 0, 0), (83, .aload_n 0, 84, 0, 0, 0), (84, .aload_n 0, 85, 0, 0, 0), (85, .iload_n 1, 86, 0, 0, 0), (86, .invokevirtual 54, 89, 14, 2, 1), (89, .aload_n 0, 90, 0, 0, 0), (90, .iload_n 2, 91, 0, 0, 0), (91, .invokevirtual 54, 94, 14, 2, 1), (94, .invokestatic 58, 97, 0, 2, 2), (97, .iload_n 3, 98, 0, 0, 0), (98, .invokevirtual 61, 101, 22, 3, 1), (101, .iconst 0, 102, 0, 0, 0), (102, .istore 5, 104, 0, 0, 0), (104, .iload 5, 106, 0, 0, 0), (106, .bipush 9, 108, 0, 0, 0), (108, .if_icmp .ge 98, 111, 206, 0, 0), (111, .aload_n 0, 112, 0, 0, 0), (112, .iload 5, 114, 0, 0, 0), (114, .iload_n 3, 115, 0, 0, 0), (115, .aload_n 0, 116, 0, 0, 0), (116, .getfield 18, 119, 1, 2, 0), (119, .iload 5, 121, 0, 0, 0), (121, .iaload, 122, 0, 0, 0), (122, .aload_n 0, 123, 0, 0, 0), (123, .getfield 21, 126, 1, 3, 0), (126, .iload 5, 128, 0, 0, 0), (128, .iaload, 129, 0, 0, 0), (129, .invokestatic 49, 132, 0, 2, 1), (132, .invokevirtual 42, 135, 23, 4, 1), (135, .iconst 0, 136, 0, 0, 0), (136, .istore 6, 138, 0, 0, 0), (138, .iload 6, 140, 0, 0, 0), (140, .bipush 9, 142, 0, 0, 0), (142, .if_icmp .ge 58, 145, 200, 0, 0), (145, .aload_n 0, 146, 0, 0, 0), (146, .getfield 18, 149, 1, 2, 0), (149, .iload 5, 151, 0, 0, 0), (151, .iaload, 152, 0, 0, 0), (152, .iload 4, 154, 0, 0, 0), (154, .if_icmp .le 46, 157, 200, 0, 0), (157, .aload_n 0, 158, 0, 0, 0), (158, .getfield 21, 161, 1, 3, 0), (161, .iload 6, 163, 0, 0, 0), (163, .iaload, 164, 0, 0, 0), (164, .iload 4, 166, 0, 0, 0), (166, .if_icmp .le 28, 169, 194, 0, 0), (169, .aload_n 0, 170, 0, 0, 0), (170, .iload 5, 172, 0, 0, 0), (172, .iload 6, 174, 0, 0, 0), (174, .aload_n 0, 175, 0, 0, 0), (175, .getfield 18, 178, 1, 2, 0), (178, .iload 5, 180, 0, 0, 0), (180, .iaload, 181, 0, 0, 0), (181, .aload_n 0, 182, 0, 0, 0), (182, .getfield 21, 185, 1, 3, 0), (185, .iload 6, 187, 0, 0, 0), (187, .iaload, 188, 0, 0, 0), (188, .invokestatic 58, 191, 0, 2, 2), (191, .invokevirtual 34, 194, 24, 4, 1), (194, .iinc 6 1, 197, 0, 0, 0), (197, .goto (-59), 200, 138, 0, 0), (200, .iinc 5 1, 203, 0, 0, 0), (203, .goto (-99), 206, 104, 0, 0), (206, .return_, 207, 0, 0, 0)]
def k_Kin_lowerRoots : List (Nat × mE) := [(0, .iconst 0, 1, 0, 0, 0), (1, .istore_n 3, 2, 0, 0, 0), (2, .iload_n 3, 3, 0, 0, 0), (3, .bipush 9, 5, 0, 0, 0), (5, .if_icmp .ge 42, 8, 47, 0, 0), (8, .iload_n 2, 9, 0, 0, 0), (9, .iload_n 3, 10, 0, 0, 0), (10, .invokestatic 38, 13, 99, 2, 0), (13, .ifCond .ne 21, 16, 34, 0, 0), (16, .aload_n 0, 17, 0, 0, 0), (17, .getfield 18, 20, 1, 2, 0), (20, .iload_n 3, 21, 0, 0, 0), (21, .iaload, 22, 0, 0, 0), (22, .ifCond .gt 12, 25, 34, 0, 0), (25, .aload_n 0, 26, 0, 0, 0), (26, .getfield 21, 29, 1, 3, 0), (29, .iload_n 3, 30, 0, 0, 0), (30, .iaload, 31, 0, 0, 0), (31, .ifCond .le 10, 34, 41, 0, 0), (34, .aload_n 0, 35, 0, 0, 0), (35, .getfield 9, 38, 1, 0, 0), (38, .iload_n 3, 39, 0, 0, 0), (39, .iload_n 1, 40, 0, 0, 0), (40, .iastore, 41, 0, 0, 0), (41, .iinc 3 1, 44, 0, 0, 0), (44, .goto (-42), 47, 2, 0, 0), (47, .return_, 48, 0, 0, 0)]
def k_Kin_setSinceOfAll : List (Nat × mE) := [(0, .iconst 0, 1, 0, 0, 0), (1, .istore 4, 3, 0, 0, 0), (3, .iload 4, 5, 0, 0, 0), (5, .bipush 9, 7, 0, 0, 0), (7, .if_icmp .ge 51, 10, 58, 0, 0), (10, .iload_n 1, 11, 0, 0, 0), (11, .invokestatic 30, 14, 98, 1, 0), (14, .ifCond .eq 44, 17, 58, 0, 0), (17, .iload_n 2, 18, 0, 0, 0), (18, .iload 4, 20, 0, 0, 0), (20, .invokestatic 38, 23, 99, 2, 0), (23, .ifCond .eq 29, 26, 52, 0, 0), (26, .aload_n 0, 27, 0, 0, 0), (27, .getfield 15, 30, 1, 1, 0), (30, .iload_n 1, 31, 0, 0, 0), (31, .bipush 9, 33, 0, 0, 0), (33, .imul, 34, 0, 0, 0), (34, .iload 4, 36, 0, 0, 0), (36, .iadd, 37, 0, 0, 0), (37, .iload_n 3, 38, 0, 0, 0), (38, .iastore, 39, 0, 0, 0), (39, .aload_n 0, 40, 0, 0, 0), (40, .getfield 15, 43, 1, 1, 0), (43, .iload 4, 45, 0, 0, 0), (45, .bipush 9, 47, 0, 0, 0), (47, .imul, 48, 0, 0, 0), (48, .iload_n 1, 49, 0, 0, 0), (49, .iadd, 50, 0, 0, 0), (50, .iload_n 3, 51, 0, 0, 0), (51, .iastore, 52, 0, 0, 0), (52, .iinc 4 1, 55, 0, 0, 0), (55, .goto (-52), 58, 3, 0, 0), (58, .return_, 59, 0, 0, 0)]
def k_Kin_setSince : List (Nat × mE) := [(0, .iload_n 1, 1, 0, 0, 0), (1, .invokestatic 30, 4, 98, 1, 0), (4, .ifCond .eq 34, 7, 38, 0, 0), (7, .iload_n 2, 8, 0, 0, 0), (8, .invokestatic 30, 11, 98, 1, 0), (11, .ifCond .eq 27, 14, 38, 0, 0), (14, .aload_n 0, 15, 0, 0, 0), (15, .getfield 15, 18, 1, 1, 0), (18, .iload_n 1, 19, 0, 0, 0), (19, .bipush 9, 21, 0, 0, 0), (21, .imul, 22, 0, 0, 0), (22, .iload_n 2, 23, 0, 0, 0), (23, .iadd, 24, 0, 0, 0), (24, .iload_n 3, 25, 0, 0, 0), (25, .iastore, 26, 0, 0, 0), (26, .aload_n 0, 27, 0, 0, 0), (27, .getfield 15, 30, 1, 1, 0), (30, .iload_n 2, 31, 0, 0, 0), (31, .bipush 9, 33, 0, 0, 0), (33, .imul, 34, 0, 0, 0), (34, .iload_n 1, 35, 0, 0, 0), (35, .iadd, 36, 0, 0, 0), (36, .iload_n 3, 37, 0, 0, 0), (37, .iastore, 38, 0, 0, 0), (38, .return_, 39, 0, 0, 0)]
def k_Net_empty : List (Nat × mE) := [(0, .aload_n 0, 1, 0, 0, 0), (1, .getfield 9, 4, 2, 0, 0), (4, .iconst 0, 5, 0, 0, 0), (5, .invokestatic 15, 8, 164, 2, 0), (8, .aload_n 0, 9, 0, 0, 0), (9, .iconst 0, 10, 0, 0, 0), (10, .putfield 21, 13, 2, 1, 0), (13, .aload_n 0, 14, 0, 0, 0), (14, .iconst 0, 15, 0, 0, 0), (15, .putfield 25, 18, 2, 2, 0), (18, .return_, 19, 0, 0, 0)]
def k_Net_points : List (Nat × mE) := [(0, .aload_n 0, 1, 0, 0, 0), (1, .getfield 21, 4, 2, 1, 0), (4, .ireturn, 5, 0, 0, 0)]
def k_Net_edges : List (Nat × mE) := [(0, .aload_n 0, 1, 0, 0, 0), (1, .getfield 25, 4, 2, 2, 0), (4, .ireturn, 5, 0, 0, 0)]
def k_Net_has : List (Nat × mE) := [(0, .iload_n 1, 1, 0, 0, 0), (1, .invokestatic 28, 4, 98, 1, 0), (4, .ifCond .eq 18, 7, 22, 0, 0), (7, .aload_n 0, 8, 0, 0, 0), (8, .getfield 21, 11, 2, 1, 0), (11, .iload_n 1, 12, 0, 0, 0), (12, .invokestatic 32, 15, 99, 2, 0), (15, .ifCond .eq 7, 18, 22, 0, 0), (18, .iconst 1, 19, 0, 0, 0), (19, .goto 4, 22, 23, 0, 0), (22, .iconst 0, 23, 0, 0, 0), (23, .ireturn, 24, 0, 0, 0)]
def k_Net_joined : List (Nat × mE) := [(0, .iload_n 2, 1, 0, 0, 0), (1, .invokestatic 28, 4, 98, 1, 0), (4, .ifCond .eq 19, 7, 23, 0, 0), (7, .aload_n 0, 8, 0, 0, 0), (8, .iload_n 1, 9, 0, 0, 0), (9, .invokevirtual 36, 12, 35, 2, 2), (12, .iload_n 2, 13, 0, 0, 0), (13, .invokestatic 32, 16, 99, 2, 0), (16, .ifCond .eq 7, 19, 23, 0, 0), (19, .iconst 1, 20, 0, 0, 0), (20, .goto 4, 23, 24, 0, 0), (23, .iconst 0, 24, 0, 0, 0), (24, .ireturn, 25, 0, 0, 0)]
def k_Net_canDo : List (Nat × mE) := [(0, .iload_n 1, 1, 0, 0, 0), (1, .invokestatic 40, 4, 89, 1, 0), (4, .istore_n 2, 5, 0, 0, 0), (5, .iload_n 1, 6, 0, 0, 0), (6, .invokestatic 43, 9, 90, 1, 0), (9, .istore_n 3, 10, 0, 0, 0), (10, .iload_n 2, 11, 0, 0, 0), (11, .invokestatic 28, 14, 98, 1, 0), (14, .ifCond .eq 10, 17, 24, 0, 0), (17, .iload_n 3, 18, 0, 0, 0), (18, .invokestatic 28, 21, 98, 1, 0), (21, .ifCond .ne 5, 24, 26, 0, 0), (24, .iconst 0, 25, 0, 0, 0), (25, .ireturn, 26, 0, 0, 0), (26, .iload_n 1, 27, 0, 0, 0), (27, .invokestatic 46, 30, 88, 1, 0), (30, .tableswitch 109 0 3 #[30, 44, 66, 102], 60, 0, 0, 0), (60, .aload_n 0, 61, 0, 0, 0), (61, .iload_n 2, 62, 0, 0, 0), (62, .invokevirtual 49, 65, 28, 2, 2), (65, .ifCond .ne 7, 68, 72, 0, 0), (68, .iconst 1, 69, 0, 0, 0), (69, .goto 4, 72, 73, 0, 0), (72, .iconst 0, 73, 0, 0, 0), (73, .ireturn, 74, 0, 0, 0), (74, .aload_n 0, 75, 0, 0, 0), (75, .iload_n 2, 76, 0, 0, 0), (76, .invokevirtual 49, 79, 28, 2, 2), (79, .ifCond .eq 15, 82, 94, 0, 0), (82, .aload_n 0, 83, 0, 0, 0), (83, .iload_n 2, 84, 0, 0, 0), (84, .invokevirtual 36, 87, 35, 2, 2), (87, .ifCond .ne 7, 90, 94, 0, 0), (90, .iconst 1, 91, 0, 0, 0), (91, .goto 4, 94, 95, 0, 0), (94, .iconst 0, 95, 0, 0, 0), (95, .ireturn, 96, 0, 0, 0), (96, .iload_n 2, 97, 0, 0, 0), (97, .iload_n 3, 98, 0, 0, 0), (98, .if_icmp .eq 32, 101, 130, 0, 0), (101, .aload_n 0, 102, 0, 0, 0), (102, .iload_n 2, 103, 0, 0, 0), (103, .invokevirtual 49, 106, 28, 2, 2), (106, .ifCond .eq 24, 109, 130, 0, 0), (109, .aload_n 0, 110, 0, 0, 0), (110, .iload_n 3, 111, 0, 0, 0), (111, .invokevirtual 49, 114, 28, 2, 2), (114, .ifCond .eq 16, 117, 130, 0, 0), (117, .aload_n 0, 118, 0, 0, 0), (118, .iload_n 2, 119, 0, 0, 0), (119, .iload_n 3, 120, 0, 0, 0), (120, .invokevirtual 52, 123, 29, 3, 2), (123, .ifCond .ne 7, 126, 130, 0, 0), (126, .iconst 1, 127, 0, 0, 0), (127, .goto 4, 130, 131, 0, 0), (130, .iconst 0, 131, 0, 0, 0), (131, .ireturn, 132, 0, 0, 0), (132, .aload_n 0, 133, 0, 0, 0), (133, .iload_n 2, 134, 0, 0, 0), (134, .iload_n 3, 135, 0, 0, 0), (135, .invokevirtual 52, 138, 29, 3, 2), (138, .ireturn, 139, 0, 0, 0), (139, .iconst 0, 140, 0, 0, 0), (140, .ireturn, 141, 0, 0, 0)]
def k_Net_change : List (Nat × mE) := [(0, .iload_n 1, 1, 0, 0, 0), (1, .invokestatic 40, 4, 89, 1, 0), (4, .istore_n 2, 5, 0, 0, 0), (5, .iload_n 1, 6, 0, 0, 0), (6, .invokestatic 43, 9, 90, 1, 0), (9, .istore_n 3, 10, 0, 0, 0), (10, .iload_n 2, 11, 0, 0, 0), (11, .invokestatic 28, 14, 98, 1, 0), (14, .ifCond .eq 10, 17, 24, 0, 0), (17, .iload_n 3, 18, 0, 0, 0), (18, .invokestatic 28, 21, 98, 1, 0), (21, .ifCond .ne 4, 24, 25, 0, 0), (24, .return_, 25, 0, 0, 0), (25, .iload_n 1, 26, 0, 0, 0), (26, .invokestatic 46, 29, 88, 1, 0), (29, .invokestatic 55, 32, 93, 1, 0), (32, .ifCond .ne 16, 35, 48, 0, 0), (35, .aload_n 0, 36, 0, 0, 0), (36, .dup, 37, 0, 0, 0), (37, .getfield 21, 40, 2, 1, 0), (40, .iconst 1, 41, 0, 0, 0), (41, .iload_n 2, 42, 0, 0, 0), (42, .ishl, 43, 0, 0, 0), (43, .ixor, 44, 0, 0, 0), (44, .putfield 21, 47, 2, 1, 0), (47, .return_, 48, 0, 0, 0), (48, .aload_n 0, 49, 0, 0, 0), (49, .dup, 50, 0, 0, 0), (50, .getfield 25, 53, 2, 2, 0), (53, .aload_n 0, 54, 0, 0, 0), (54, .iload_n 2, 55, 0, 0, 0), (55, .iload_n 3, 56, 0, 0, 0), (56, .invokevirtual 52, 59, 29, 3, 2), (59, .ifCond .eq 7, 62, 66, 0, 0), (62, .iconst (-1), 63, 0, 0, 0), (63, .goto 4, 66, 67, 0, 0), (66, .iconst 1, 67, 0, 0, 0), (67, .iadd, 68, 0, 0, 0), (68, .putfield 25, 71, 2, 2, 0), (71, .aload_n 0, 72, 0, 0, 0), (72, .getfield 9, 75, 2, 0, 0), (75, .iload_n 2, 76, 0, 0, 0), (76, .dup2, 77, 0, 0, 0), (77, .iaload, 78, 0, 0, 0), (78, .iconst 1, 79, 0, 0, 0), (79, .iload_n 3, 80, 0, 0, 0), (80, .ishl, 81, 0, 0, 0), (81, .ixor, 82, 0, 0, 0), (82, .iastore, 83, 0, 0, 0), (83, .aload_n 0, 84, 0, 0, 0), (84, .getfield 9, 87, 2, 0, 0), (87, .iload_n 3, 88, 0, 0, 0), (88, .dup2, 89, 0, 0, 0), (89, .iaload, 90, 0, 0, 0), (90, .iconst 1, 91, 0, 0, 0), (91, .iload_n 2, 92, 0, 0, 0), (92, .ishl, 93, 0, 0, 0), (93, .ixor, 94, 0, 0, 0), (94, .iastore, 95, 0, 0, 0), (95, .return_, 96, 0, 0, 0)]
def k_Net_pieceOf : List (Nat × mE) := [(0, .aload_n 0, 1, 0, 0, 0), (1, .iload_n 1, 2, 0, 0, 0), (2, .invokevirtual 49, 5, 28, 2, 2), (5, .ifCond .ne 5, 8, 10, 0, 0), (8, .iconst 0, 9, 0, 0, 0), (9, .ireturn, 10, 0, 0, 0), (10, .iconst 0, 11, 0, 0, 0), (11, .istore_n 2, 12, 0, 0, 0), (12, .iconst 1, 13, 0, 0, 0), (13, .iload_n 1, 14, 0, 0, 0), (14, .ishl, 15, 0, 0, 0), (15, .istore_n 3, 16, 0, 0, 0), (16, .iconst 0, 17, 0, 0, 0), (17, .istore 4, 19, 0, 0, 0), (19, .iload 4, 21, 0, 0, 0), (21, .bipush 9, 23, 0, 0, 0), (23, .if_icmp .ge 39, 26, 62, 0, 0), (26, .iload_n 3, 27, 0, 0, 0), (27, .ifCond .eq 35, 30, 62, 0, 0), (30, .iload_n 3, 31, 0, 0, 0), (31, .invokestatic 58, 34, 100, 1, 0), (34, .istore 5, 36, 0, 0, 0), (36, .iload_n 2, 37, 0, 0, 0), (37, .iconst 1, 38, 0, 0, 0), (38, .iload 5, 40, 0, 0, 0), (40, .ishl, 41, 0, 0, 0), (41, .ior, 42, 0, 0, 0), (42, .istore_n 2, 43, 0, 0, 0), (43, .iload_n 3, 44, 0, 0, 0), (44, .aload_n 0, 45, 0, 0, 0), (45, .iload 5, 47, 0, 0, 0), (47, .invokevirtual 36, 50, 35, 2, 2), (50, .ior, 51, 0, 0, 0), (51, .iload_n 2, 52, 0, 0, 0), (52, .iconst (-1), 53, 0, 0, 0), (53, .ixor, 54, 0, 0, 0), (54, .iand, 55, 0, 0, 0), (55, .istore_n 3, 56, 0, 0, 0), (56, .iinc 4 1, 59, 0, 0, 0), (59, .goto (-40), 62, 19, 0, 0), (62, .iload_n 2, 63, 0, 0, 0), (63, .ireturn, 64, 0, 0, 0)]
def k_Net_pieces : List (Nat × mE) := [(0, .iconst 0, 1, 0, 0, 0), (1, .istore_n 1, 2, 0, 0, 0), (2, .iconst 0, 3, 0, 0, 0), (3, .istore_n 2, 4, 0, 0, 0), (4, .iconst 0, 5, 0, 0, 0), (5, .istore_n 3, 6, 0, 0, 0), (6, .iload_n 3, 7, 0, 0, 0), (7, .bipush 9, 9, 0, 0, 0), (9, .if_icmp .ge 36, 12, 45, 0, 0), (12, .aload_n 0, 13, 0, 0, 0), (13, .iload_n 3, 14, 0, 0, 0), (14, .invokevirtual 49, 17, 28, 2, 2), (17, .ifCond .eq 22, 20, 39, 0, 0), (20, .iload_n 2, 21, 0, 0, 0), (21, .iload_n 3, 22, 0, 0, 0), (22, .invokestatic 32, 25, 99, 2, 0), (25, .ifCond .ne 14, 28, 39, 0, 0), (28, .iload_n 2, 29, 0, 0, 0), (29, .aload_n 0, 30, 0, 0, 0), (30, .iload_n 3, 31, 0, 0, 0), (31, .invokevirtual 61, 34, 32, 2, 2), (34, .ior, 35, 0, 0, 0), (35, .istore_n 2, 36, 0, 0, 0), (36, .iinc 1 1, 39, 0, 0, 0), (39, .iinc 3 1, 42, 0, 0, 0), (42, .goto (-36), 45, 6, 0, 0), (45, .iload_n 1, 46, 0, 0, 0), (46, .ireturn, 47, 0, 0, 0)]
def k_Net_loops : List (Nat × mE) := [(0, .aload_n 0, 1, 0, 0, 0), (1, .getfield 25, 4, 2, 2, 0), (4, .aload_n 0, 5, 0, 0, 0), (5, .getfield 21, 8, 2, 1, 0), (8, .invokestatic 64, 11, 163, 1, 0), (11, .isub, 12, 0, 0, 0), (12, .aload_n 0, 13, 0, 0, 0), (13, .invokevirtual 69, 16, 33, 1, 2), (16, .iadd, 17, 0, 0, 0), (17, .ireturn, 18, 0, 0, 0)]
def k_Net_nearOf : List (Nat × mE) := [(0, .iload_n 1, 1, 0, 0, 0), (1, .invokestatic 28, 4, 98, 1, 0), (4, .ifCond .eq 12, 7, 16, 0, 0), (7, .aload_n 0, 8, 0, 0, 0), (8, .getfield 9, 11, 2, 0, 0), (11, .iload_n 1, 12, 0, 0, 0), (12, .iaload, 13, 0, 0, 0), (13, .goto 4, 16, 17, 0, 0), (16, .iconst 0, 17, 0, 0, 0), (17, .ireturn, 18, 0, 0, 0)]
def k_Row_size : List (Nat × mE) := [(0, .aload_n 0, 1, 0, 0, 0), (1, .getfield 15, 4, 3, 1, 0), (4, .ireturn, 5, 0, 0, 0)]
def k_Row_empty : List (Nat × mE) := [(0, .aload_n 0, 1, 0, 0, 0), (1, .iconst 0, 2, 0, 0, 0), (2, .putfield 15, 5, 3, 1, 0), (5, .return_, 6, 0, 0, 0)]
def k_Row_add : List (Nat × mE) := [(0, .aload_n 0, 1, 0, 0, 0), (1, .getfield 15, 4, 3, 1, 0), (4, .ifCond .lt 35, 7, 39, 0, 0), (7, .aload_n 0, 8, 0, 0, 0), (8, .getfield 15, 11, 3, 1, 0), (11, .aload_n 0, 12, 0, 0, 0), (12, .getfield 9, 15, 3, 0, 0), (15, .arraylength, 16, 0, 0, 0), (16, .if_icmp .ge 23, 19, 39, 0, 0), (19, .aload_n 0, 20, 0, 0, 0), (20, .getfield 9, 23, 3, 0, 0), (23, .aload_n 0, 24, 0, 0, 0), (24, .getfield 15, 27, 3, 1, 0), (27, .iload_n 1, 28, 0, 0, 0), (28, .iastore, 29, 0, 0, 0), (29, .aload_n 0, 30, 0, 0, 0), (30, .dup, 31, 0, 0, 0), (31, .getfield 15, 34, 3, 1, 0), (34, .iconst 1, 35, 0, 0, 0), (35, .iadd, 36, 0, 0, 0), (36, .putfield 15, 39, 3, 1, 0), (39, .return_, 40, 0, 0, 0)]
def k_Row_removeLast : List (Nat × mE) := [(0, .aload_n 0, 1, 0, 0, 0), (1, .getfield 15, 4, 3, 1, 0), (4, .ifCond .le 13, 7, 17, 0, 0), (7, .aload_n 0, 8, 0, 0, 0), (8, .dup, 9, 0, 0, 0), (9, .getfield 15, 12, 3, 1, 0), (12, .iconst 1, 13, 0, 0, 0), (13, .isub, 14, 0, 0, 0), (14, .putfield 15, 17, 3, 1, 0), (17, .return_, 18, 0, 0, 0)]
def k_Row_actAt : List (Nat × mE) := [(0, .iload_n 1, 1, 0, 0, 0), (1, .iconst 1, 2, 0, 0, 0), (2, .if_icmp .lt 31, 5, 33, 0, 0), (5, .iload_n 1, 6, 0, 0, 0), (6, .aload_n 0, 7, 0, 0, 0), (7, .getfield 15, 10, 3, 1, 0), (10, .if_icmp .gt 23, 13, 33, 0, 0), (13, .iload_n 1, 14, 0, 0, 0), (14, .aload_n 0, 15, 0, 0, 0), (15, .getfield 9, 18, 3, 0, 0), (18, .arraylength, 19, 0, 0, 0), (19, .if_icmp .gt 14, 22, 33, 0, 0), (22, .aload_n 0, 23, 0, 0, 0), (23, .getfield 9, 26, 3, 0, 0), (26, .iload_n 1, 27, 0, 0, 0), (27, .iconst 1, 28, 0, 0, 0), (28, .isub, 29, 0, 0, 0), (29, .iaload, 30, 0, 0, 0), (30, .goto 4, 33, 34, 0, 0), (33, .iconst (-1), 34, 0, 0, 0), (34, .ireturn, 35, 0, 0, 0)]
def k_Row_swapWithNext : List (Nat × mE) := [(0, .iload_n 1, 1, 0, 0, 0), (1, .iconst 1, 2, 0, 0, 0), (2, .if_icmp .lt 50, 5, 52, 0, 0), (5, .iload_n 1, 6, 0, 0, 0), (6, .aload_n 0, 7, 0, 0, 0), (7, .getfield 15, 10, 3, 1, 0), (10, .if_icmp .ge 42, 13, 52, 0, 0), (13, .iload_n 1, 14, 0, 0, 0), (14, .aload_n 0, 15, 0, 0, 0), (15, .getfield 9, 18, 3, 0, 0), (18, .arraylength, 19, 0, 0, 0), (19, .if_icmp .ge 33, 22, 52, 0, 0), (22, .aload_n 0, 23, 0, 0, 0), (23, .getfield 9, 26, 3, 0, 0), (26, .iload_n 1, 27, 0, 0, 0), (27, .iconst 1, 28, 0, 0, 0), (28, .isub, 29, 0, 0, 0), (29, .iaload, 30, 0, 0, 0), (30, .istore_n 2, 31, 0, 0, 0), (31, .aload_n 0, 32, 0, 0, 0), (32, .getfield 9, 35, 3, 0, 0), (35, .iload_n 1, 36, 0, 0, 0), (36, .iconst 1, 37, 0, 0, 0), (37, .isub, 38, 0, 0, 0), (38, .aload_n 0, 39, 0, 0, 0), (39, .getfield 9, 42, 3, 0, 0), (42, .iload_n 1, 43, 0, 0, 0), (43, .iaload, 44, 0, 0, 0), (44, .iastore, 45, 0, 0, 0), (45, .aload_n 0, 46, 0, 0, 0), (46, .getfield 9, 49, 3, 0, 0), (49, .iload_n 1, 50, 0, 0, 0), (50, .iload_n 2, 51, 0, 0, 0), (51, .iastore, 52, 0, 0, 0), (52, .return_, 53, 0, 0, 0)]
def k_Row_copy : List (Nat × mE) := [(0, .aload_n 0, 1, 0, 0, 0), (1, .invokevirtual 19, 4, 37, 1, 3), (4, .iconst 1, 5, 0, 0, 0), (5, .istore_n 2, 6, 0, 0, 0), (6, .iload_n 2, 7, 0, 0, 0), (7, .aload_n 1, 8, 0, 0, 0), (8, .getfield 15, 11, 3, 1, 0), (11, .if_icmp .gt 18, 14, 29, 0, 0), (14, .aload_n 0, 15, 0, 0, 0), (15, .aload_n 1, 16, 0, 0, 0), (16, .iload_n 2, 17, 0, 0, 0), (17, .invokevirtual 22, 20, 40, 2, 3), (20, .invokevirtual 26, 23, 38, 2, 3), (23, .iinc 2 1, 26, 0, 0, 0), (26, .goto (-20), 29, 6, 0, 0), (29, .return_, 30, 0, 0, 0)]
def k_Shf_size : List (Nat × mE) := [(0, .aload_n 0, 1, 0, 0, 0), (1, .getfield 22, 4, 4, 1, 0), (4, .ireturn, 5, 0, 0, 0)]
def k_Shf_empty : List (Nat × mE) := [(0, .aload_n 0, 1, 0, 0, 0), (1, .iconst 0, 2, 0, 0, 0), (2, .putfield 22, 5, 4, 1, 0), (5, .return_, 6, 0, 0, 0)]
def k_Shf_put : List (Nat × mE) := [(0, .aload_n 0, 1, 0, 0, 0), (1, .getfield 22, 4, 4, 1, 0), (4, .aload_n 0, 5, 0, 0, 0), (5, .getfield 15, 8, 4, 0, 0), (8, .arraylength, 9, 0, 0, 0), (9, .if_icmp .lt 7, 12, 16, 0, 0), (12, .aload_n 0, 13, 0, 0, 0), (13, .invokevirtual 26, 16, 48, 1, 4), (16, .aload_n 0, 17, 0, 0, 0), (17, .dup, 18, 0, 0, 0), (18, .getfield 22, 21, 4, 1, 0), (21, .iconst 1, 22, 0, 0, 0), (22, .iadd, 23, 0, 0, 0), (23, .putfield 22, 26, 4, 1, 0), (26, .aload_n 0, 27, 0, 0, 0), (27, .invokevirtual 29, 30, 46, 1, 4), (30, .astore_n 2, 31, 0, 0, 0), (31, .aload_n 2, 32, 0, 0, 0), (32, .ifnull 8, 35, 40, 0, 0), (35, .aload_n 2, 36, 0, 0, 0), (36, .aload_n 1, 37, 0, 0, 0), (37, .invokevirtual 33, 40, 42, 2, 3), (40, .return_, 41, 0, 0, 0)]
def k_Shf_last : List (Nat × mE) := [(0, .aload_n 0, 1, 0, 0, 0), (1, .getfield 22, 4, 4, 1, 0), (4, .iconst 1, 5, 0, 0, 0), (5, .if_icmp .lt 29, 8, 34, 0, 0), (8, .aload_n 0, 9, 0, 0, 0), (9, .getfield 22, 12, 4, 1, 0), (12, .aload_n 0, 13, 0, 0, 0), (13, .getfield 15, 16, 4, 0, 0), (16, .arraylength, 17, 0, 0, 0), (17, .if_icmp .gt 17, 20, 34, 0, 0), (20, .aload_n 0, 21, 0, 0, 0), (21, .getfield 15, 24, 4, 0, 0), (24, .aload_n 0, 25, 0, 0, 0), (25, .getfield 22, 28, 4, 1, 0), (28, .iconst 1, 29, 0, 0, 0), (29, .isub, 30, 0, 0, 0), (30, .aaload, 31, 0, 0, 0), (31, .goto 4, 34, 35, 0, 0), (34, .aconst_null, 35, 0, 0, 0), (35, .areturn, 36, 0, 0, 0)]
def k_Shf_removeLast : List (Nat × mE) := [(0, .aload_n 0, 1, 0, 0, 0), (1, .getfield 22, 4, 4, 1, 0), (4, .ifCond .le 13, 7, 17, 0, 0), (7, .aload_n 0, 8, 0, 0, 0), (8, .dup, 9, 0, 0, 0), (9, .getfield 22, 12, 4, 1, 0), (12, .iconst 1, 13, 0, 0, 0), (13, .isub, 14, 0, 0, 0), (14, .putfield 22, 17, 4, 1, 0), (17, .return_, 18, 0, 0, 0)]
def k_Shf_loseOldest : List (Nat × mE) := [(0, .aload_n 0, 1, 0, 0, 0), (1, .getfield 15, 4, 4, 0, 0), (4, .iconst 0, 5, 0, 0, 0), (5, .aaload, 6, 0, 0, 0), (6, .astore_n 1, 7, 0, 0, 0), (7, .iconst 1, 8, 0, 0, 0), (8, .istore_n 2, 9, 0, 0, 0), (9, .iload_n 2, 10, 0, 0, 0), (10, .aload_n 0, 11, 0, 0, 0), (11, .getfield 15, 14, 4, 0, 0), (14, .arraylength, 15, 0, 0, 0), (15, .if_icmp .ge 23, 18, 38, 0, 0), (18, .aload_n 0, 19, 0, 0, 0), (19, .getfield 15, 22, 4, 0, 0), (22, .iload_n 2, 23, 0, 0, 0), (23, .iconst 1, 24, 0, 0, 0), (24, .isub, 25, 0, 0, 0), (25, .aload_n 0, 26, 0, 0, 0), (26, .getfield 15, 29, 4, 0, 0), (29, .iload_n 2, 30, 0, 0, 0), (30, .aaload, 31, 0, 0, 0), (31, .aastore, 32, 0, 0, 0), (32, .iinc 2 1, 35, 0, 0, 0), (35, .goto (-26), 38, 9, 0, 0), (38, .aload_n 0, 39, 0, 0, 0), (39, .getfield 15, 42, 4, 0, 0), (42, .aload_n 0, 43, 0, 0, 0), (43, .getfield 15, 46, 4, 0, 0), (46, .arraylength, 47, 0, 0, 0), (47, .iconst 1, 48, 0, 0, 0), (48, .isub, 49, 0, 0, 0), (49, .aload_n 1, 50, 0, 0, 0), (50, .aastore, 51, 0, 0, 0), (51, .aload_n 0, 52, 0, 0, 0), (52, .aload_n 0, 53, 0, 0, 0), (53, .getfield 15, 56, 4, 0, 0), (56, .arraylength, 57, 0, 0, 0), (57, .iconst 1, 58, 0, 0, 0), (58, .isub, 59, 0, 0, 0), (59, .putfield 22, 62, 4, 1, 0), (62, .return_, 63, 0, 0, 0)]
def k_Sto_play : List (Nat × mE) := [(0, .aload_n 0, 1, 0, 0, 0), (1, .getfield 12, 4, 5, 0, 0), (4, .invokevirtual 32, 7, 25, 1, 2), (7, .aload_n 0, 8, 0, 0, 0), (8, .getfield 21, 11, 5, 1, 0), (11, .invokevirtual 35, 14, 13, 1, 1), (14, .aload_n 0, 15, 0, 0, 0), (15, .getfield 28, 18, 5, 2, 0), (18, .invokevirtual 36, 21, 0, 1, 0), (21, .iconst 1, 22, 0, 0, 0), (22, .istore_n 3, 23, 0, 0, 0), (23, .iload_n 3, 24, 0, 0, 0), (24, .iload_n 2, 25, 0, 0, 0), (25, .if_icmp .gt 43, 28, 68, 0, 0), (28, .iload_n 3, 29, 0, 0, 0), (29, .bipush 40, 31, 0, 0, 0), (31, .if_icmp .gt 37, 34, 68, 0, 0), (34, .aload_n 1, 35, 0, 0, 0), (35, .iload_n 3, 36, 0, 0, 0), (36, .invokevirtual 37, 39, 40, 2, 3), (39, .istore 4, 41, 0, 0, 0), (41, .aload_n 0, 42, 0, 0, 0), (42, .getfield 12, 45, 5, 0, 0), (45, .iload 4, 47, 0, 0, 0), (47, .invokevirtual 43, 50, 30, 2, 2), (50, .ifCond .ne 5, 53, 55, 0, 0), (53, .iconst 0, 54, 0, 0, 0), (54, .ireturn, 55, 0, 0, 0), (55, .aload_n 0, 56, 0, 0, 0), (56, .iload 4, 58, 0, 0, 0), (58, .iload_n 3, 59, 0, 0, 0), (59, .invokevirtual 47, 62, 50, 3, 5), (62, .iinc 3 1, 65, 0, 0, 0), (65, .goto (-42), 68, 23, 0, 0), (68, .aload_n 0, 69, 0, 0, 0), (69, .invokevirtual 51, 72, 51, 1, 5), (72, .iconst 1, 73, 0, 0, 0), (73, .ireturn, 74, 0, 0, 0)]
def k_Sto_step : List (Nat × mE) := [(0, .iload_n 1, 1, 0, 0, 0), (1, .invokestatic 54, 4, 89, 1, 0), (4, .istore_n 3, 5, 0, 0, 0), (5, .iload_n 1, 6, 0, 0, 0), (6, .invokestatic 57, 9, 90, 1, 0), (9, .istore 4, 11, 0, 0, 0), (11, .aload_n 0, 12, 0, 0, 0), (12, .getfield 12, 15, 5, 0, 0), (15, .iload_n 3, 16, 0, 0, 0), (16, .invokevirtual 60, 19, 32, 2, 2), (19, .iload 4, 21, 0, 0, 0), (21, .invokestatic 63, 24, 99, 2, 0), (24, .istore 5, 26, 0, 0, 0), (26, .aload_n 0, 27, 0, 0, 0), (27, .getfield 12, 30, 5, 0, 0), (30, .iload_n 1, 31, 0, 0, 0), (31, .invokevirtual 67, 34, 31, 2, 2), (34, .aload_n 0, 35, 0, 0, 0), (35, .getfield 12, 38, 5, 0, 0), (38, .iload_n 3, 39, 0, 0, 0), (39, .invokevirtual 60, 42, 32, 2, 2), (42, .iload 4, 44, 0, 0, 0), (44, .invokestatic 63, 47, 99, 2, 0), (47, .istore 6, 49, 0, 0, 0), (49, .iload_n 1, 50, 0, 0, 0), (50, .invokestatic 71, 53, 88, 1, 0), (53, .tableswitch 117 0 2 #[27, 39, 73], 80, 0, 0, 0), (80, .aload_n 0, 81, 0, 0, 0), (81, .getfield 21, 84, 5, 1, 0), (84, .iload_n 3, 85, 0, 0, 0), (85, .iload_n 2, 86, 0, 0, 0), (86, .invokevirtual 74, 89, 16, 3, 1), (89, .goto 111, 92, 200, 0, 0), (92, .aload_n 0, 93, 0, 0, 0), (93, .getfield 28, 96, 5, 2, 0), (96, .aload_n 0, 97, 0, 0, 0), (97, .getfield 21, 100, 5, 1, 0), (100, .iload_n 3, 101, 0, 0, 0), (101, .aload_n 0, 102, 0, 0, 0), (102, .getfield 12, 105, 5, 0, 0), (105, .invokevirtual 77, 108, 26, 1, 2), (108, .invokevirtual 81, 111, 19, 3, 1), (111, .iload_n 2, 112, 0, 0, 0), (112, .invokevirtual 85, 115, 3, 3, 0), (115, .aload_n 0, 116, 0, 0, 0), (116, .getfield 21, 119, 5, 1, 0), (119, .iload_n 3, 120, 0, 0, 0), (120, .invokevirtual 88, 123, 17, 2, 1), (123, .goto 77, 126, 200, 0, 0), (126, .iload 5, 128, 0, 0, 0), (128, .ifCond .ne 72, 131, 200, 0, 0), (131, .aload_n 0, 132, 0, 0, 0), (132, .getfield 28, 135, 5, 2, 0), (135, .aload_n 0, 136, 0, 0, 0), (136, .getfield 21, 139, 5, 1, 0), (139, .iload_n 3, 140, 0, 0, 0), (140, .iload 4, 142, 0, 0, 0), (142, .invokevirtual 91, 145, 20, 3, 1), (145, .iload_n 2, 146, 0, 0, 0), (146, .invokevirtual 85, 149, 3, 3, 0), (149, .aload_n 0, 150, 0, 0, 0), (150, .getfield 21, 153, 5, 1, 0), (153, .iload_n 3, 154, 0, 0, 0), (154, .iload 4, 156, 0, 0, 0), (156, .aload_n 0, 157, 0, 0, 0), (157, .getfield 12, 160, 5, 0, 0), (160, .iload_n 3, 161, 0, 0, 0), (161, .invokevirtual 60, 164, 32, 2, 2), (164, .invokevirtual 94, 167, 21, 4, 1), (167, .goto 33, 170, 200, 0, 0), (170, .iload 6, 172, 0, 0, 0), (172, .ifCond .ne 28, 175, 200, 0, 0), (175, .aload_n 0, 176, 0, 0, 0), (176, .getfield 21, 179, 5, 1, 0), (179, .aload_n 0, 180, 0, 0, 0), (180, .getfield 12, 183, 5, 0, 0), (183, .iload_n 3, 184, 0, 0, 0), (184, .invokevirtual 60, 187, 32, 2, 2), (187, .aload_n 0, 188, 0, 0, 0), (188, .getfield 12, 191, 5, 0, 0), (191, .iload 4, 193, 0, 0, 0), (193, .invokevirtual 60, 196, 32, 2, 2), (196, .iload_n 2, 197, 0, 0, 0), (197, .invokevirtual 98, 200, 18, 4, 1), (200, .return_, 201, 0, 0, 0)]
def k_Sto_addOpenBars : List (Nat × mE) := [(0, .aload_n 0, 1, 0, 0, 0), (1, .getfield 12, 4, 5, 0, 0), (4, .invokevirtual 77, 7, 26, 1, 2), (7, .istore_n 1, 8, 0, 0, 0), (8, .iconst 0, 9, 0, 0, 0), (9, .istore_n 2, 10, 0, 0, 0), (10, .iload_n 2, 11, 0, 0, 0), (11, .bipush 9, 13, 0, 0, 0), (13, .if_icmp .ge 48, 16, 61, 0, 0), (16, .iload_n 1, 17, 0, 0, 0), (17, .iload_n 2, 18, 0, 0, 0), (18, .invokestatic 63, 21, 99, 2, 0), (21, .ifCond .eq 34, 24, 55, 0, 0), (24, .iload_n 1, 25, 0, 0, 0), (25, .aload_n 0, 26, 0, 0, 0), (26, .getfield 12, 29, 5, 0, 0), (29, .iload_n 2, 30, 0, 0, 0), (30, .invokevirtual 60, 33, 32, 2, 2), (33, .iconst (-1), 34, 0, 0, 0), (34, .ixor, 35, 0, 0, 0), (35, .iand, 36, 0, 0, 0), (36, .istore_n 1, 37, 0, 0, 0), (37, .aload_n 0, 38, 0, 0, 0), (38, .getfield 28, 41, 5, 2, 0), (41, .aload_n 0, 42, 0, 0, 0), (42, .getfield 21, 45, 5, 1, 0), (45, .iload_n 2, 46, 0, 0, 0), (46, .iload_n 1, 47, 0, 0, 0), (47, .invokevirtual 81, 50, 19, 3, 1), (50, .bipush 99, 52, 0, 0, 0), (52, .invokevirtual 85, 55, 3, 3, 0), (55, .iinc 2 1, 58, 0, 0, 0), (58, .goto (-48), 61, 10, 0, 0), (61, .return_, 62, 0, 0, 0)]
def k_Txt_length : List (Nat × mE) := [(0, .aload_n 0, 1, 0, 0, 0), (1, .getfield 15, 4, 6, 1, 0), (4, .ireturn, 5, 0, 0, 0)]
def k_Txt_empty : List (Nat × mE) := [(0, .aload_n 0, 1, 0, 0, 0), (1, .iconst 0, 2, 0, 0, 0), (2, .putfield 15, 5, 6, 1, 0), (5, .return_, 6, 0, 0, 0)]
def k_Txt_add : List (Nat × mE) := [(0, .aload_n 0, 1, 0, 0, 0), (1, .getfield 15, 4, 6, 1, 0), (4, .ifCond .lt 35, 7, 39, 0, 0), (7, .aload_n 0, 8, 0, 0, 0), (8, .getfield 15, 11, 6, 1, 0), (11, .aload_n 0, 12, 0, 0, 0), (12, .getfield 9, 15, 6, 0, 0), (15, .arraylength, 16, 0, 0, 0), (16, .if_icmp .ge 23, 19, 39, 0, 0), (19, .aload_n 0, 20, 0, 0, 0), (20, .getfield 9, 23, 6, 0, 0), (23, .aload_n 0, 24, 0, 0, 0), (24, .getfield 15, 27, 6, 1, 0), (27, .iload_n 1, 28, 0, 0, 0), (28, .iastore, 29, 0, 0, 0), (29, .aload_n 0, 30, 0, 0, 0), (30, .dup, 31, 0, 0, 0), (31, .getfield 15, 34, 6, 1, 0), (34, .iconst 1, 35, 0, 0, 0), (35, .iadd, 36, 0, 0, 0), (36, .putfield 15, 39, 6, 1, 0), (39, .return_, 40, 0, 0, 0)]
def k_Txt_actAt : List (Nat × mE) := [(0, .aload_n 0, 1, 0, 0, 0), (1, .iload_n 1, 2, 0, 0, 0), (2, .invokevirtual 19, 5, 56, 2, 6), (5, .invokestatic 23, 8, 95, 1, 0), (8, .istore_n 2, 9, 0, 0, 0), (9, .iload_n 2, 10, 0, 0, 0), (10, .invokestatic 26, 13, 92, 1, 0), (13, .ifCond .ne 5, 16, 18, 0, 0), (16, .iconst (-1), 17, 0, 0, 0), (17, .ireturn, 18, 0, 0, 0), (18, .aload_n 0, 19, 0, 0, 0), (19, .iload_n 1, 20, 0, 0, 0), (20, .iconst 1, 21, 0, 0, 0), (21, .iadd, 22, 0, 0, 0), (22, .invokevirtual 19, 25, 56, 2, 6), (25, .bipush 48, 27, 0, 0, 0), (27, .isub, 28, 0, 0, 0), (28, .istore_n 3, 29, 0, 0, 0), (29, .iload_n 2, 30, 0, 0, 0), (30, .invokestatic 30, 33, 93, 1, 0), (33, .ifCond .eq 16, 36, 49, 0, 0), (36, .aload_n 0, 37, 0, 0, 0), (37, .iload_n 1, 38, 0, 0, 0), (38, .iconst 2, 39, 0, 0, 0), (39, .iadd, 40, 0, 0, 0), (40, .invokevirtual 19, 43, 56, 2, 6), (43, .bipush 48, 45, 0, 0, 0), (45, .isub, 46, 0, 0, 0), (46, .goto 4, 49, 50, 0, 0), (49, .iload_n 3, 50, 0, 0, 0), (50, .istore 4, 52, 0, 0, 0), (52, .aload_n 0, 53, 0, 0, 0), (53, .iload_n 1, 54, 0, 0, 0), (54, .iload_n 2, 55, 0, 0, 0), (55, .invokestatic 33, 58, 94, 1, 0), (58, .iadd, 59, 0, 0, 0), (59, .iconst 1, 60, 0, 0, 0), (60, .isub, 61, 0, 0, 0), (61, .invokevirtual 19, 64, 56, 2, 6), (64, .bipush 59, 66, 0, 0, 0), (66, .if_icmp .ne 7, 69, 73, 0, 0), (69, .iconst 1, 70, 0, 0, 0), (70, .goto 4, 73, 74, 0, 0), (73, .iconst 0, 74, 0, 0, 0), (74, .istore 5, 76, 0, 0, 0), (76, .iload 5, 78, 0, 0, 0), (78, .ifCond .eq 28, 81, 106, 0, 0), (81, .iload_n 3, 82, 0, 0, 0), (82, .invokestatic 36, 85, 98, 1, 0), (85, .ifCond .eq 21, 88, 106, 0, 0), (88, .iload 4, 90, 0, 0, 0), (90, .invokestatic 36, 93, 98, 1, 0), (93, .ifCond .eq 13, 96, 106, 0, 0), (96, .iload_n 2, 97, 0, 0, 0), (97, .iload_n 3, 98, 0, 0, 0), (98, .iload 4, 100, 0, 0, 0), (100, .invokestatic 39, 103, 87, 3, 0), (103, .goto 4, 106, 107, 0, 0), (106, .iconst (-1), 107, 0, 0, 0), (107, .ireturn, 108, 0, 0, 0)]
def k_Txt_letterAt : List (Nat × mE) := [(0, .iload_n 1, 1, 0, 0, 0), (1, .ifCond .lt 29, 4, 30, 0, 0), (4, .iload_n 1, 5, 0, 0, 0), (5, .aload_n 0, 6, 0, 0, 0), (6, .getfield 15, 9, 6, 1, 0), (9, .if_icmp .ge 21, 12, 30, 0, 0), (12, .iload_n 1, 13, 0, 0, 0), (13, .aload_n 0, 14, 0, 0, 0), (14, .getfield 9, 17, 6, 0, 0), (17, .arraylength, 18, 0, 0, 0), (18, .if_icmp .ge 12, 21, 30, 0, 0), (21, .aload_n 0, 22, 0, 0, 0), (22, .getfield 9, 25, 6, 0, 0), (25, .iload_n 1, 26, 0, 0, 0), (26, .iaload, 27, 0, 0, 0), (27, .goto 4, 30, 31, 0, 0), (30, .iconst 0, 31, 0, 0, 0), (31, .ireturn, 32, 0, 0, 0)]
def k_Z_write : List (Nat × mE) := [(0, .iload_n 1, 1, 0, 0, 0), (1, .bipush 32, 3, 0, 0, 0), (3, .if_icmp .lt 9, 6, 12, 0, 0), (6, .iload_n 1, 7, 0, 0, 0), (7, .bipush 126, 9, 0, 0, 0), (9, .if_icmp .le 5, 12, 14, 0, 0), (12, .iconst (-1), 13, 0, 0, 0), (13, .ireturn, 14, 0, 0, 0), (14, .aload_n 0, 15, 0, 0, 0), (15, .getfield 10, 18, 7, 0, 0), (18, .invokevirtual 72, 21, 52, 1, 6), (21, .sipush 200, 24, 0, 0, 0), (24, .if_icmp .lt 6, 27, 30, 0, 0), (27, .bipush (-3), 29, 0, 0, 0), (29, .ireturn, 30, 0, 0, 0), (30, .aload_n 0, 31, 0, 0, 0), (31, .getfield 10, 34, 7, 0, 0), (34, .iload_n 1, 35, 0, 0, 0), (35, .invokevirtual 60, 38, 54, 2, 6), (38, .aload_n 0, 39, 0, 0, 0), (39, .getfield 10, 42, 7, 0, 0), (42, .invokevirtual 72, 45, 52, 1, 6), (45, .ireturn, 46, 0, 0, 0)]
def k_Z_wipe : List (Nat × mE) := [(0, .aload_n 0, 1, 0, 0, 0), (1, .getfield 10, 4, 7, 0, 0), (4, .invokevirtual 72, 7, 52, 1, 6), (7, .istore_n 1, 8, 0, 0, 0), (8, .aload_n 0, 9, 0, 0, 0), (9, .getfield 10, 12, 7, 0, 0), (12, .invokevirtual 69, 15, 53, 1, 6), (15, .iload_n 1, 16, 0, 0, 0), (16, .ireturn, 17, 0, 0, 0)]
def k_Z_fault : List (Nat × mE) := [(0, .aload_n 0, 1, 0, 0, 0), (1, .invokevirtual 63, 4, 81, 1, 7), (4, .ireturn, 5, 0, 0, 0)]
def k_Z_lay : List (Nat × mE) := [(0, .aload_n 0, 1, 0, 0, 0), (1, .invokevirtual 63, 4, 81, 1, 7), (4, .bipush (-4), 6, 0, 0, 0), (6, .if_icmp .eq 6, 9, 12, 0, 0), (9, .bipush (-2), 11, 0, 0, 0), (11, .ireturn, 12, 0, 0, 0), (12, .aload_n 0, 13, 0, 0, 0), (13, .invokevirtual 66, 16, 82, 1, 7), (16, .aload_n 0, 17, 0, 0, 0), (17, .getfield 19, 20, 7, 1, 0), (20, .invokevirtual 73, 23, 36, 1, 3), (23, .ireturn, 24, 0, 0, 0)]
def k_Z_act : List (Nat × mE) := [(0, .iload_n 1, 1, 0, 0, 0), (1, .invokestatic 76, 4, 92, 1, 0), (4, .ifCond .eq 17, 7, 21, 0, 0), (7, .iload_n 2, 8, 0, 0, 0), (8, .invokestatic 80, 11, 98, 1, 0), (11, .ifCond .eq 10, 14, 21, 0, 0), (14, .iload_n 3, 15, 0, 0, 0), (15, .invokestatic 80, 18, 98, 1, 0), (18, .ifCond .ne 5, 21, 23, 0, 0), (21, .iconst (-1), 22, 0, 0, 0), (22, .ireturn, 23, 0, 0, 0), (23, .iload_n 1, 24, 0, 0, 0), (24, .invokestatic 83, 27, 93, 1, 0), (27, .ifCond .eq 10, 30, 37, 0, 0), (30, .iload_n 2, 31, 0, 0, 0), (31, .iload_n 3, 32, 0, 0, 0), (32, .if_icmp .ne 5, 35, 37, 0, 0), (35, .iconst (-1), 36, 0, 0, 0), (36, .ireturn, 37, 0, 0, 0), (37, .iload_n 1, 38, 0, 0, 0), (38, .iload_n 2, 39, 0, 0, 0), (39, .iload_n 3, 40, 0, 0, 0), (40, .invokestatic 86, 43, 87, 3, 0), (43, .istore 4, 45, 0, 0, 0), (45, .aload_n 0, 46, 0, 0, 0), (46, .getfield 41, 49, 7, 5, 0), (49, .getfield 90, 52, 5, 0, 0), (52, .iload 4, 54, 0, 0, 0), (54, .invokevirtual 94, 57, 30, 2, 2), (57, .ifCond .ne 6, 60, 63, 0, 0), (60, .bipush (-2), 62, 0, 0, 0), (62, .ireturn, 63, 0, 0, 0), (63, .aload_n 0, 64, 0, 0, 0), (64, .getfield 19, 67, 7, 1, 0), (67, .invokevirtual 73, 70, 36, 1, 3), (70, .bipush 40, 72, 0, 0, 0), (72, .if_icmp .lt 6, 75, 78, 0, 0), (75, .bipush (-3), 77, 0, 0, 0), (77, .ireturn, 78, 0, 0, 0), (78, .aload_n 0, 79, 0, 0, 0), (79, .getfield 31, 82, 7, 3, 0), (82, .aload_n 0, 83, 0, 0, 0), (83, .getfield 19, 86, 7, 1, 0), (86, .invokevirtual 99, 89, 45, 2, 4), (89, .aload_n 0, 90, 0, 0, 0), (90, .getfield 19, 93, 7, 1, 0), (93, .iload 4, 95, 0, 0, 0), (95, .invokevirtual 103, 98, 38, 2, 3), (98, .aload_n 0, 99, 0, 0, 0), (99, .invokevirtual 104, 102, 83, 1, 7), (102, .aload_n 0, 103, 0, 0, 0), (103, .getfield 19, 106, 7, 1, 0), (106, .invokevirtual 73, 109, 36, 1, 3), (109, .ireturn, 110, 0, 0, 0)]
def k_Z_drop : List (Nat × mE) := [(0, .aload_n 0, 1, 0, 0, 0), (1, .getfield 19, 4, 7, 1, 0), (4, .invokevirtual 73, 7, 36, 1, 3), (7, .ifCond .ne 6, 10, 13, 0, 0), (10, .bipush (-2), 12, 0, 0, 0), (12, .ireturn, 13, 0, 0, 0), (13, .aload_n 0, 14, 0, 0, 0), (14, .getfield 31, 17, 7, 3, 0), (17, .aload_n 0, 18, 0, 0, 0), (18, .getfield 19, 21, 7, 1, 0), (21, .invokevirtual 99, 24, 45, 2, 4), (24, .aload_n 0, 25, 0, 0, 0), (25, .getfield 19, 28, 7, 1, 0), (28, .invokevirtual 107, 31, 39, 1, 3), (31, .aload_n 0, 32, 0, 0, 0), (32, .invokevirtual 104, 35, 83, 1, 7), (35, .aload_n 0, 36, 0, 0, 0), (36, .getfield 19, 39, 7, 1, 0), (39, .invokevirtual 73, 42, 36, 1, 3), (42, .ireturn, 43, 0, 0, 0)]
def k_Z_exchange : List (Nat × mE) := [(0, .iload_n 1, 1, 0, 0, 0), (1, .iconst 1, 2, 0, 0, 0), (2, .if_icmp .lt 14, 5, 16, 0, 0), (5, .iload_n 1, 6, 0, 0, 0), (6, .aload_n 0, 7, 0, 0, 0), (7, .getfield 19, 10, 7, 1, 0), (10, .invokevirtual 73, 13, 36, 1, 3), (13, .if_icmp .lt 5, 16, 18, 0, 0), (16, .iconst (-1), 17, 0, 0, 0), (17, .ireturn, 18, 0, 0, 0), (18, .aload_n 0, 19, 0, 0, 0), (19, .iload_n 1, 20, 0, 0, 0), (20, .invokevirtual 110, 23, 84, 2, 7), (23, .ifCond .ne 6, 26, 29, 0, 0), (26, .bipush (-2), 28, 0, 0, 0), (28, .ireturn, 29, 0, 0, 0), (29, .aload_n 0, 30, 0, 0, 0), (30, .getfield 41, 33, 7, 5, 0), (33, .getfield 113, 36, 5, 2, 0), (36, .aload_n 0, 37, 0, 0, 0), (37, .getfield 45, 40, 7, 6, 0), (40, .getfield 113, 43, 5, 2, 0), (43, .invokevirtual 117, 46, 10, 2, 0), (46, .istore_n 2, 47, 0, 0, 0), (47, .aload_n 0, 48, 0, 0, 0), (48, .getfield 31, 51, 7, 3, 0), (51, .aload_n 0, 52, 0, 0, 0), (52, .getfield 19, 55, 7, 1, 0), (55, .invokevirtual 99, 58, 45, 2, 4), (58, .aload_n 0, 59, 0, 0, 0), (59, .getfield 19, 62, 7, 1, 0), (62, .aload_n 0, 63, 0, 0, 0), (63, .getfield 23, 66, 7, 2, 0), (66, .invokevirtual 123, 69, 42, 2, 3), (69, .aload_n 0, 70, 0, 0, 0), (70, .invokevirtual 104, 73, 83, 1, 7), (73, .iload_n 2, 74, 0, 0, 0), (74, .ireturn, 75, 0, 0, 0)]
def k_Z_backwards : List (Nat × mE) := [(0, .aload_n 0, 1, 0, 0, 0), (1, .getfield 41, 4, 7, 5, 0), (4, .getfield 90, 7, 5, 0, 0), (7, .invokevirtual 126, 10, 26, 1, 2), (10, .ifCond .eq 6, 13, 16, 0, 0), (13, .bipush (-2), 15, 0, 0, 0), (15, .ireturn, 16, 0, 0, 0), (16, .aload_n 0, 17, 0, 0, 0), (17, .getfield 31, 20, 7, 3, 0), (20, .aload_n 0, 21, 0, 0, 0), (21, .getfield 19, 24, 7, 1, 0), (24, .invokevirtual 99, 27, 45, 2, 4), (27, .aload_n 0, 28, 0, 0, 0), (28, .getfield 23, 31, 7, 2, 0), (31, .invokevirtual 129, 34, 37, 1, 3), (34, .aload_n 0, 35, 0, 0, 0), (35, .getfield 19, 38, 7, 1, 0), (38, .invokevirtual 73, 41, 36, 1, 3), (41, .istore_n 1, 42, 0, 0, 0), (42, .iload_n 1, 43, 0, 0, 0), (43, .iconst 1, 44, 0, 0, 0), (44, .if_icmp .lt 27, 47, 71, 0, 0), (47, .aload_n 0, 48, 0, 0, 0), (48, .getfield 23, 51, 7, 2, 0), (51, .aload_n 0, 52, 0, 0, 0), (52, .getfield 19, 55, 7, 1, 0), (55, .iload_n 1, 56, 0, 0, 0), (56, .invokevirtual 130, 59, 40, 2, 3), (59, .invokestatic 134, 62, 91, 1, 0), (62, .invokevirtual 103, 65, 38, 2, 3), (65, .iinc 1 (-1), 68, 0, 0, 0), (68, .goto (-26), 71, 42, 0, 0), (71, .aload_n 0, 72, 0, 0, 0), (72, .getfield 19, 75, 7, 1, 0), (75, .aload_n 0, 76, 0, 0, 0), (76, .getfield 23, 79, 7, 2, 0), (79, .invokevirtual 123, 82, 42, 2, 3), (82, .aload_n 0, 83, 0, 0, 0), (83, .invokevirtual 104, 86, 83, 1, 7), (86, .aload_n 0, 87, 0, 0, 0), (87, .getfield 19, 90, 7, 1, 0), (90, .invokevirtual 73, 93, 36, 1, 3), (93, .ireturn, 94, 0, 0, 0)]
def k_Z_clear : List (Nat × mE) := [(0, .aload_n 0, 1, 0, 0, 0), (1, .getfield 41, 4, 7, 5, 0), (4, .getfield 90, 7, 5, 0, 0), (7, .invokevirtual 126, 10, 26, 1, 2), (10, .ifCond .ne 6, 13, 16, 0, 0), (13, .bipush (-2), 15, 0, 0, 0), (15, .ireturn, 16, 0, 0, 0), (16, .aload_n 0, 17, 0, 0, 0), (17, .getfield 41, 20, 7, 5, 0), (20, .getfield 90, 23, 5, 0, 0), (23, .invokevirtual 137, 26, 27, 1, 2), (26, .aload_n 0, 27, 0, 0, 0), (27, .getfield 41, 30, 7, 5, 0), (30, .getfield 90, 33, 5, 0, 0), (33, .invokevirtual 126, 36, 26, 1, 2), (36, .invokestatic 140, 39, 163, 1, 0), (39, .iadd, 40, 0, 0, 0), (40, .istore_n 1, 41, 0, 0, 0), (41, .aload_n 0, 42, 0, 0, 0), (42, .getfield 19, 45, 7, 1, 0), (45, .invokevirtual 73, 48, 36, 1, 3), (48, .iload_n 1, 49, 0, 0, 0), (49, .iadd, 50, 0, 0, 0), (50, .bipush 40, 52, 0, 0, 0), (52, .if_icmp .le 6, 55, 58, 0, 0), (55, .bipush (-3), 57, 0, 0, 0), (57, .ireturn, 58, 0, 0, 0), (58, .aload_n 0, 59, 0, 0, 0), (59, .getfield 31, 62, 7, 3, 0), (62, .aload_n 0, 63, 0, 0, 0), (63, .getfield 19, 66, 7, 1, 0), (66, .invokevirtual 99, 69, 45, 2, 4), (69, .aload_n 0, 70, 0, 0, 0), (70, .invokevirtual 145, 73, 85, 1, 7), (73, .aload_n 0, 74, 0, 0, 0), (74, .invokevirtual 148, 77, 86, 1, 7), (77, .aload_n 0, 78, 0, 0, 0), (78, .invokevirtual 104, 81, 83, 1, 7), (81, .iload_n 1, 82, 0, 0, 0), (82, .ireturn, 83, 0, 0, 0)]
def k_Z_undo : List (Nat × mE) := [(0, .aload_n 0, 1, 0, 0, 0), (1, .getfield 31, 4, 7, 3, 0), (4, .invokevirtual 151, 7, 46, 1, 4), (7, .astore_n 1, 8, 0, 0, 0), (8, .aload_n 1, 9, 0, 0, 0), (9, .ifnonnull 6, 12, 15, 0, 0), (12, .bipush (-2), 14, 0, 0, 0), (14, .ireturn, 15, 0, 0, 0), (15, .aload_n 0, 16, 0, 0, 0), (16, .getfield 19, 19, 7, 1, 0), (19, .aload_n 1, 20, 0, 0, 0), (20, .invokevirtual 123, 23, 42, 2, 3), (23, .aload_n 0, 24, 0, 0, 0), (24, .getfield 31, 27, 7, 3, 0), (27, .invokevirtual 155, 30, 47, 1, 4), (30, .aload_n 0, 31, 0, 0, 0), (31, .invokevirtual 104, 34, 83, 1, 7), (34, .aload_n 0, 35, 0, 0, 0), (35, .getfield 31, 38, 7, 3, 0), (38, .invokevirtual 156, 41, 43, 1, 4), (41, .ireturn, 42, 0, 0, 0)]
def k_Z_spelt : List (Nat × mE) := [(0, .iload_n 1, 1, 0, 0, 0), (1, .ifCond .ge 5, 4, 6, 0, 0), (4, .iconst (-1), 5, 0, 0, 0), (5, .ireturn, 6, 0, 0, 0), (6, .iconst 0, 7, 0, 0, 0), (7, .istore_n 2, 8, 0, 0, 0), (8, .iconst 1, 9, 0, 0, 0), (9, .istore_n 3, 10, 0, 0, 0), (10, .iload_n 3, 11, 0, 0, 0), (11, .aload_n 0, 12, 0, 0, 0), (12, .getfield 19, 15, 7, 1, 0), (15, .invokevirtual 73, 18, 36, 1, 3), (18, .if_icmp .gt 51, 21, 69, 0, 0), (21, .aload_n 0, 22, 0, 0, 0), (22, .getfield 19, 25, 7, 1, 0), (25, .iload_n 3, 26, 0, 0, 0), (26, .invokevirtual 130, 29, 40, 2, 3), (29, .istore 4, 31, 0, 0, 0), (31, .iload 4, 33, 0, 0, 0), (33, .invokestatic 157, 36, 88, 1, 0), (36, .invokestatic 160, 39, 94, 1, 0), (39, .istore 5, 41, 0, 0, 0), (41, .iload_n 1, 42, 0, 0, 0), (42, .iload_n 2, 43, 0, 0, 0), (43, .iload 5, 45, 0, 0, 0), (45, .iadd, 46, 0, 0, 0), (46, .if_icmp .ge 12, 49, 58, 0, 0), (49, .iload 4, 51, 0, 0, 0), (51, .iload_n 1, 52, 0, 0, 0), (52, .iload_n 2, 53, 0, 0, 0), (53, .isub, 54, 0, 0, 0), (54, .invokestatic 163, 57, 97, 2, 0), (57, .ireturn, 58, 0, 0, 0), (58, .iload_n 2, 59, 0, 0, 0), (59, .iload 5, 61, 0, 0, 0), (61, .iadd, 62, 0, 0, 0), (62, .istore_n 2, 63, 0, 0, 0), (63, .iinc 3 1, 66, 0, 0, 0), (66, .goto (-56), 69, 10, 0, 0), (69, .bipush (-4), 71, 0, 0, 0), (71, .ireturn, 72, 0, 0, 0)]
def k_Z_told : List (Nat × mE) := [(0, .iload_n 1, 1, 0, 0, 0), (1, .iconst 1, 2, 0, 0, 0), (2, .if_icmp .lt 23, 5, 25, 0, 0), (5, .iload_n 1, 6, 0, 0, 0), (6, .aload_n 0, 7, 0, 0, 0), (7, .getfield 19, 10, 7, 1, 0), (10, .invokevirtual 73, 13, 36, 1, 3), (13, .if_icmp .gt 12, 16, 25, 0, 0), (16, .iload_n 2, 17, 0, 0, 0), (17, .ifCond .lt 8, 20, 25, 0, 0), (20, .iload_n 2, 21, 0, 0, 0), (21, .iconst 2, 22, 0, 0, 0), (22, .if_icmp .le 5, 25, 27, 0, 0), (25, .iconst (-1), 26, 0, 0, 0), (26, .ireturn, 27, 0, 0, 0), (27, .aload_n 0, 28, 0, 0, 0), (28, .getfield 19, 31, 7, 1, 0), (31, .iload_n 1, 32, 0, 0, 0), (32, .invokevirtual 130, 35, 40, 2, 3), (35, .istore_n 3, 36, 0, 0, 0), (36, .iload_n 2, 37, 0, 0, 0), (37, .ifCond .ne 8, 40, 45, 0, 0), (40, .iload_n 3, 41, 0, 0, 0), (41, .invokestatic 157, 44, 88, 1, 0), (44, .ireturn, 45, 0, 0, 0), (45, .iload_n 2, 46, 0, 0, 0), (46, .iconst 1, 47, 0, 0, 0), (47, .if_icmp .ne 8, 50, 55, 0, 0), (50, .iload_n 3, 51, 0, 0, 0), (51, .invokestatic 167, 54, 89, 1, 0), (54, .ireturn, 55, 0, 0, 0), (55, .iload_n 3, 56, 0, 0, 0), (56, .invokestatic 157, 59, 88, 1, 0), (59, .invokestatic 83, 62, 93, 1, 0), (62, .ifCond .eq 10, 65, 72, 0, 0), (65, .iload_n 3, 66, 0, 0, 0), (66, .invokestatic 170, 69, 90, 1, 0), (69, .goto 5, 72, 74, 0, 0), (72, .bipush (-4), 74, 0, 0, 0), (74, .ireturn, 75, 0, 0, 0)]
def k_Z_graph : List (Nat × mE) := [(0, .iload_n 1, 1, 0, 0, 0), (1, .ifCond .lt 23, 4, 24, 0, 0), (4, .iload_n 1, 5, 0, 0, 0), (5, .aload_n 0, 6, 0, 0, 0), (6, .getfield 19, 9, 7, 1, 0), (9, .invokevirtual 73, 12, 36, 1, 3), (12, .if_icmp .gt 12, 15, 24, 0, 0), (15, .iload_n 2, 16, 0, 0, 0), (16, .ifCond .lt 8, 19, 24, 0, 0), (19, .iload_n 2, 20, 0, 0, 0), (20, .iconst 3, 21, 0, 0, 0), (21, .if_icmp .le 5, 24, 26, 0, 0), (24, .iconst (-1), 25, 0, 0, 0), (25, .ireturn, 26, 0, 0, 0), (26, .aload_n 0, 27, 0, 0, 0), (27, .getfield 45, 30, 7, 6, 0), (30, .aload_n 0, 31, 0, 0, 0), (31, .getfield 19, 34, 7, 1, 0), (34, .iload_n 1, 35, 0, 0, 0), (35, .invokevirtual 173, 38, 49, 3, 5), (38, .pop, 39, 0, 0, 0), (39, .iload_n 2, 40, 0, 0, 0), (40, .tableswitch 61 0 2 #[28, 39, 50], 68, 0, 0, 0), (68, .aload_n 0, 69, 0, 0, 0), (69, .getfield 45, 72, 7, 6, 0), (72, .getfield 90, 75, 5, 0, 0), (75, .invokevirtual 126, 78, 26, 1, 2), (78, .ireturn, 79, 0, 0, 0), (79, .aload_n 0, 80, 0, 0, 0), (80, .getfield 45, 83, 7, 6, 0), (83, .getfield 90, 86, 5, 0, 0), (86, .invokevirtual 137, 89, 27, 1, 2), (89, .ireturn, 90, 0, 0, 0), (90, .aload_n 0, 91, 0, 0, 0), (91, .getfield 45, 94, 7, 6, 0), (94, .getfield 90, 97, 5, 0, 0), (97, .invokevirtual 177, 100, 33, 1, 2), (100, .ireturn, 101, 0, 0, 0), (101, .aload_n 0, 102, 0, 0, 0), (102, .getfield 45, 105, 7, 6, 0), (105, .getfield 90, 108, 5, 0, 0), (108, .invokevirtual 180, 111, 34, 1, 2), (111, .ireturn, 112, 0, 0, 0)]
def k_Z_piece : List (Nat × mE) := [(0, .iload_n 1, 1, 0, 0, 0), (1, .ifCond .lt 21, 4, 22, 0, 0), (4, .iload_n 1, 5, 0, 0, 0), (5, .aload_n 0, 6, 0, 0, 0), (6, .getfield 19, 9, 7, 1, 0), (9, .invokevirtual 73, 12, 36, 1, 3), (12, .if_icmp .gt 10, 15, 22, 0, 0), (15, .iload_n 2, 16, 0, 0, 0), (16, .invokestatic 80, 19, 98, 1, 0), (19, .ifCond .ne 5, 22, 24, 0, 0), (22, .iconst (-1), 23, 0, 0, 0), (23, .ireturn, 24, 0, 0, 0), (24, .aload_n 0, 25, 0, 0, 0), (25, .getfield 45, 28, 7, 6, 0), (28, .aload_n 0, 29, 0, 0, 0), (29, .getfield 19, 32, 7, 1, 0), (32, .iload_n 1, 33, 0, 0, 0), (33, .invokevirtual 173, 36, 49, 3, 5), (36, .pop, 37, 0, 0, 0), (37, .aload_n 0, 38, 0, 0, 0), (38, .getfield 45, 41, 7, 6, 0), (41, .getfield 90, 44, 5, 0, 0), (44, .iload_n 2, 45, 0, 0, 0), (45, .invokevirtual 183, 48, 28, 2, 2), (48, .ifCond .ne 6, 51, 54, 0, 0), (51, .bipush (-4), 53, 0, 0, 0), (53, .ireturn, 54, 0, 0, 0), (54, .aload_n 0, 55, 0, 0, 0), (55, .getfield 45, 58, 7, 6, 0), (58, .getfield 90, 61, 5, 0, 0), (61, .iload_n 2, 62, 0, 0, 0), (62, .invokevirtual 186, 65, 32, 2, 2), (65, .invokestatic 189, 68, 100, 1, 0), (68, .ireturn, 69, 0, 0, 0)]
def k_Z_root : List (Nat × mE) := [(0, .iload_n 1, 1, 0, 0, 0), (1, .invokestatic 80, 4, 98, 1, 0), (4, .ifCond .ne 5, 7, 9, 0, 0), (7, .iconst (-1), 8, 0, 0, 0), (8, .ireturn, 9, 0, 0, 0), (9, .aload_n 0, 10, 0, 0, 0), (10, .getfield 41, 13, 7, 5, 0), (13, .getfield 90, 16, 5, 0, 0), (16, .iload_n 1, 17, 0, 0, 0), (17, .invokevirtual 183, 20, 28, 2, 2), (20, .ifCond .eq 17, 23, 37, 0, 0), (23, .aload_n 0, 24, 0, 0, 0), (24, .getfield 41, 27, 7, 5, 0), (27, .getfield 192, 30, 5, 1, 0), (30, .iload_n 1, 31, 0, 0, 0), (31, .invokevirtual 196, 34, 14, 2, 1), (34, .goto 5, 37, 39, 0, 0), (37, .bipush (-4), 39, 0, 0, 0), (39, .ireturn, 40, 0, 0, 0)]
def k_Z_kin : List (Nat × mE) := [(0, .iload_n 1, 1, 0, 0, 0), (1, .invokestatic 80, 4, 98, 1, 0), (4, .ifCond .eq 10, 7, 14, 0, 0), (7, .iload_n 2, 8, 0, 0, 0), (8, .invokestatic 80, 11, 98, 1, 0), (11, .ifCond .ne 5, 14, 16, 0, 0), (14, .iconst (-1), 15, 0, 0, 0), (15, .ireturn, 16, 0, 0, 0), (16, .aload_n 0, 17, 0, 0, 0), (17, .getfield 41, 20, 7, 5, 0), (20, .getfield 90, 23, 5, 0, 0), (23, .iload_n 1, 24, 0, 0, 0), (24, .invokevirtual 183, 27, 28, 2, 2), (27, .ifCond .eq 35, 30, 62, 0, 0), (30, .aload_n 0, 31, 0, 0, 0), (31, .getfield 41, 34, 7, 5, 0), (34, .getfield 90, 37, 5, 0, 0), (37, .iload_n 2, 38, 0, 0, 0), (38, .invokevirtual 183, 41, 28, 2, 2), (41, .ifCond .eq 21, 44, 62, 0, 0), (44, .aload_n 0, 45, 0, 0, 0), (45, .getfield 41, 48, 7, 5, 0), (48, .getfield 90, 51, 5, 0, 0), (51, .iload_n 1, 52, 0, 0, 0), (52, .invokevirtual 186, 55, 32, 2, 2), (55, .iload_n 2, 56, 0, 0, 0), (56, .invokestatic 201, 59, 99, 2, 0), (59, .ifCond .eq 6, 62, 65, 0, 0), (62, .bipush (-2), 64, 0, 0, 0), (64, .ireturn, 65, 0, 0, 0), (65, .aload_n 0, 66, 0, 0, 0), (66, .getfield 41, 69, 7, 5, 0), (69, .getfield 192, 72, 5, 1, 0), (72, .iload_n 1, 73, 0, 0, 0), (73, .iload_n 2, 74, 0, 0, 0), (74, .invokevirtual 205, 77, 15, 3, 1), (77, .istore_n 3, 78, 0, 0, 0), (78, .iload_n 3, 79, 0, 0, 0), (79, .ifCond .le 7, 82, 86, 0, 0), (82, .iload_n 3, 83, 0, 0, 0), (83, .goto 5, 86, 88, 0, 0), (86, .bipush (-4), 88, 0, 0, 0), (88, .ireturn, 89, 0, 0, 0)]
def k_Z_bar : List (Nat × mE) := [(0, .iload_n 1, 1, 0, 0, 0), (1, .bipush (-3), 3, 0, 0, 0), (3, .if_icmp .lt 12, 6, 15, 0, 0), (6, .iload_n 2, 7, 0, 0, 0), (7, .ifCond .lt 8, 10, 15, 0, 0), (10, .iload_n 2, 11, 0, 0, 0), (11, .iconst 2, 12, 0, 0, 0), (12, .if_icmp .le 5, 15, 17, 0, 0), (15, .iconst (-1), 16, 0, 0, 0), (16, .ireturn, 17, 0, 0, 0), (17, .iload_n 1, 18, 0, 0, 0), (18, .iconst (-1), 19, 0, 0, 0), (19, .if_icmp .ne 14, 22, 33, 0, 0), (22, .aload_n 0, 23, 0, 0, 0), (23, .getfield 41, 26, 7, 5, 0), (26, .getfield 113, 29, 5, 2, 0), (29, .invokevirtual 208, 32, 1, 1, 0), (32, .ireturn, 33, 0, 0, 0), (33, .iload_n 1, 34, 0, 0, 0), (34, .bipush (-2), 36, 0, 0, 0), (36, .if_icmp .ne 14, 39, 50, 0, 0), (39, .aload_n 0, 40, 0, 0, 0), (40, .getfield 41, 43, 7, 5, 0), (43, .getfield 113, 46, 5, 2, 0), (46, .invokevirtual 209, 49, 2, 1, 0), (49, .ireturn, 50, 0, 0, 0), (50, .iload_n 1, 51, 0, 0, 0), (51, .bipush (-3), 53, 0, 0, 0), (53, .if_icmp .ne 25, 56, 78, 0, 0), (56, .aload_n 0, 57, 0, 0, 0), (57, .getfield 41, 60, 7, 5, 0), (60, .getfield 113, 63, 5, 2, 0), (63, .invokevirtual 208, 66, 1, 1, 0), (66, .aload_n 0, 67, 0, 0, 0), (67, .getfield 41, 70, 7, 5, 0), (70, .getfield 113, 73, 5, 2, 0), (73, .invokevirtual 209, 76, 2, 1, 0), (76, .isub, 77, 0, 0, 0), (77, .ireturn, 78, 0, 0, 0), (78, .iload_n 1, 79, 0, 0, 0), (79, .aload_n 0, 80, 0, 0, 0), (80, .getfield 41, 83, 7, 5, 0), (83, .getfield 113, 86, 5, 2, 0), (86, .invokevirtual 208, 89, 1, 1, 0), (89, .if_icmp .lt 6, 92, 95, 0, 0), (92, .bipush (-4), 94, 0, 0, 0), (94, .ireturn, 95, 0, 0, 0), (95, .iload_n 2, 96, 0, 0, 0), (96, .ifCond .ne 15, 99, 111, 0, 0), (99, .aload_n 0, 100, 0, 0, 0), (100, .getfield 41, 103, 7, 5, 0), (103, .getfield 113, 106, 5, 2, 0), (106, .iload_n 1, 107, 0, 0, 0), (107, .invokevirtual 212, 110, 4, 2, 0), (110, .ireturn, 111, 0, 0, 0), (111, .iload_n 2, 112, 0, 0, 0), (112, .iconst 1, 113, 0, 0, 0), (113, .if_icmp .ne 17, 116, 130, 0, 0), (116, .aload_n 0, 117, 0, 0, 0), (117, .getfield 41, 120, 7, 5, 0), (120, .getfield 113, 123, 5, 2, 0), (123, .iload_n 1, 124, 0, 0, 0), (124, .invokevirtual 215, 127, 5, 2, 0), (127, .goto 21, 130, 148, 0, 0), (130, .aload_n 0, 131, 0, 0, 0), (131, .getfield 41, 134, 7, 5, 0), (134, .getfield 113, 137, 5, 2, 0), (137, .iload_n 1, 138, 0, 0, 0), (138, .aload_n 0, 139, 0, 0, 0), (139, .getfield 19, 142, 7, 1, 0), (142, .invokevirtual 73, 145, 36, 1, 3), (145, .invokevirtual 218, 148, 6, 3, 0), (148, .ireturn, 149, 0, 0, 0)]
def k_Z_lasting : List (Nat × mE) := [(0, .iload_n 1, 1, 0, 0, 0), (1, .ifCond .lt 19, 4, 20, 0, 0), (4, .iload_n 2, 5, 0, 0, 0), (5, .aload_n 0, 6, 0, 0, 0), (6, .getfield 19, 9, 7, 1, 0), (9, .invokevirtual 73, 12, 36, 1, 3), (12, .if_icmp .gt 8, 15, 20, 0, 0), (15, .iload_n 1, 16, 0, 0, 0), (16, .iload_n 2, 17, 0, 0, 0), (17, .if_icmp .le 5, 20, 22, 0, 0), (20, .iconst (-1), 21, 0, 0, 0), (21, .ireturn, 22, 0, 0, 0), (22, .aload_n 0, 23, 0, 0, 0), (23, .getfield 41, 26, 7, 5, 0), (26, .getfield 113, 29, 5, 2, 0), (29, .iload_n 1, 30, 0, 0, 0), (30, .iload_n 2, 31, 0, 0, 0), (31, .aload_n 0, 32, 0, 0, 0), (32, .getfield 19, 35, 7, 1, 0), (35, .invokevirtual 73, 38, 36, 1, 3), (38, .invokevirtual 221, 41, 9, 4, 0), (41, .ireturn, 42, 0, 0, 0)]
def k_Z_longer : List (Nat × mE) := [(0, .iload_n 1, 1, 0, 0, 0), (1, .iconst 1, 2, 0, 0, 0), (2, .if_icmp .lt 9, 5, 11, 0, 0), (5, .iload_n 1, 6, 0, 0, 0), (6, .bipush 41, 8, 0, 0, 0), (8, .if_icmp .le 5, 11, 13, 0, 0), (11, .iconst (-1), 12, 0, 0, 0), (12, .ireturn, 13, 0, 0, 0), (13, .aload_n 0, 14, 0, 0, 0), (14, .getfield 41, 17, 7, 5, 0), (17, .getfield 113, 20, 5, 2, 0), (20, .iload_n 1, 21, 0, 0, 0), (21, .aload_n 0, 22, 0, 0, 0), (22, .getfield 19, 25, 7, 1, 0), (25, .invokevirtual 73, 28, 36, 1, 3), (28, .invokevirtual 224, 31, 8, 3, 0), (31, .ireturn, 32, 0, 0, 0)]
def k_Z_steadiest : List (Nat × mE) := [(0, .iload_n 1, 1, 0, 0, 0), (1, .ifCond .lt 8, 4, 9, 0, 0), (4, .iload_n 1, 5, 0, 0, 0), (5, .iconst 1, 6, 0, 0, 0), (6, .if_icmp .le 5, 9, 11, 0, 0), (9, .iconst (-1), 10, 0, 0, 0), (10, .ireturn, 11, 0, 0, 0), (11, .bipush (-4), 13, 0, 0, 0), (13, .istore_n 2, 14, 0, 0, 0), (14, .bipush (-4), 16, 0, 0, 0), (16, .istore_n 3, 17, 0, 0, 0), (17, .iconst 1, 18, 0, 0, 0), (18, .istore 4, 20, 0, 0, 0), (20, .iload 4, 22, 0, 0, 0), (22, .aload_n 0, 23, 0, 0, 0), (23, .getfield 19, 26, 7, 1, 0), (26, .invokevirtual 73, 29, 36, 1, 3), (29, .if_icmp .ge 49, 32, 78, 0, 0), (32, .aload_n 0, 33, 0, 0, 0), (33, .iload 4, 35, 0, 0, 0), (35, .invokevirtual 110, 38, 84, 2, 7), (38, .ifCond .eq 34, 41, 72, 0, 0), (41, .aload_n 0, 42, 0, 0, 0), (42, .getfield 45, 45, 7, 6, 0), (45, .getfield 113, 48, 5, 2, 0), (48, .aload_n 0, 49, 0, 0, 0), (49, .getfield 19, 52, 7, 1, 0), (52, .invokevirtual 73, 55, 36, 1, 3), (55, .invokevirtual 227, 58, 7, 2, 0), (58, .istore 5, 60, 0, 0, 0), (60, .iload 5, 62, 0, 0, 0), (62, .iload_n 3, 63, 0, 0, 0), (63, .if_icmp .le 9, 66, 72, 0, 0), (66, .iload 5, 68, 0, 0, 0), (68, .istore_n 3, 69, 0, 0, 0), (69, .iload 4, 71, 0, 0, 0), (71, .istore_n 2, 72, 0, 0, 0), (72, .iinc 4 1, 75, 0, 0, 0), (75, .goto (-55), 78, 20, 0, 0), (78, .iload_n 1, 79, 0, 0, 0), (79, .ifCond .ne 7, 82, 86, 0, 0), (82, .iload_n 2, 83, 0, 0, 0), (83, .goto 4, 86, 87, 0, 0), (86, .iload_n 3, 87, 0, 0, 0), (87, .ireturn, 88, 0, 0, 0)]
def k_Z_keep : List (Nat × mE) := [(0, .aload_n 0, 1, 0, 0, 0), (1, .getfield 35, 4, 7, 4, 0), (4, .invokevirtual 156, 7, 43, 1, 4), (7, .iconst 2, 8, 0, 0, 0), (8, .if_icmp .lt 6, 11, 14, 0, 0), (11, .bipush (-3), 13, 0, 0, 0), (13, .ireturn, 14, 0, 0, 0), (14, .aload_n 0, 15, 0, 0, 0), (15, .getfield 35, 18, 7, 4, 0), (18, .aload_n 0, 19, 0, 0, 0), (19, .getfield 19, 22, 7, 1, 0), (22, .invokevirtual 99, 25, 45, 2, 4), (25, .aload_n 0, 26, 0, 0, 0), (26, .getfield 35, 29, 7, 4, 0), (29, .invokevirtual 156, 32, 43, 1, 4), (32, .ireturn, 33, 0, 0, 0)]
def k_Z_other : List (Nat × mE) := [(0, .aload_n 0, 1, 0, 0, 0), (1, .getfield 35, 4, 7, 4, 0), (4, .invokevirtual 151, 7, 46, 1, 4), (7, .astore_n 1, 8, 0, 0, 0), (8, .aload_n 1, 9, 0, 0, 0), (9, .ifnonnull 6, 12, 15, 0, 0), (12, .bipush (-2), 14, 0, 0, 0), (14, .ireturn, 15, 0, 0, 0), (15, .aload_n 0, 16, 0, 0, 0), (16, .getfield 45, 19, 7, 6, 0), (19, .aload_n 1, 20, 0, 0, 0), (20, .aload_n 1, 21, 0, 0, 0), (21, .invokevirtual 73, 24, 36, 1, 3), (24, .invokevirtual 173, 27, 49, 3, 5), (27, .pop, 28, 0, 0, 0), (28, .aload_n 0, 29, 0, 0, 0), (29, .getfield 41, 32, 7, 5, 0), (32, .getfield 113, 35, 5, 2, 0), (35, .aload_n 0, 36, 0, 0, 0), (36, .getfield 45, 39, 7, 6, 0), (39, .getfield 113, 42, 5, 2, 0), (42, .invokevirtual 117, 45, 10, 2, 0), (45, .ireturn, 46, 0, 0, 0)]
def k_Z_back : List (Nat × mE) := [(0, .aload_n 0, 1, 0, 0, 0), (1, .getfield 35, 4, 7, 4, 0), (4, .invokevirtual 151, 7, 46, 1, 4), (7, .astore_n 1, 8, 0, 0, 0), (8, .aload_n 1, 9, 0, 0, 0), (9, .ifnonnull 6, 12, 15, 0, 0), (12, .bipush (-2), 14, 0, 0, 0), (14, .ireturn, 15, 0, 0, 0), (15, .aload_n 0, 16, 0, 0, 0), (16, .getfield 19, 19, 7, 1, 0), (19, .aload_n 1, 20, 0, 0, 0), (20, .invokevirtual 123, 23, 42, 2, 3), (23, .aload_n 0, 24, 0, 0, 0), (24, .getfield 35, 27, 7, 4, 0), (27, .invokevirtual 155, 30, 47, 1, 4), (30, .aload_n 0, 31, 0, 0, 0), (31, .getfield 31, 34, 7, 3, 0), (34, .invokevirtual 230, 37, 44, 1, 4), (37, .aload_n 0, 38, 0, 0, 0), (38, .invokevirtual 104, 41, 83, 1, 7), (41, .aload_n 0, 42, 0, 0, 0), (42, .getfield 35, 45, 7, 4, 0), (45, .invokevirtual 156, 48, 43, 1, 4), (48, .ireturn, 49, 0, 0, 0)]
def k_Z_count : List (Nat × mE) := [(0, .iload_n 1, 1, 0, 0, 0), (1, .tableswitch 111 0 6 #[43, 51, 65, 76, 87, 95, 103], 44, 0, 0, 0), (44, .aload_n 0, 45, 0, 0, 0), (45, .getfield 19, 48, 7, 1, 0), (48, .invokevirtual 73, 51, 36, 1, 3), (51, .ireturn, 52, 0, 0, 0), (52, .aload_n 0, 53, 0, 0, 0), (53, .getfield 41, 56, 7, 5, 0), (56, .getfield 90, 59, 5, 0, 0), (59, .invokevirtual 126, 62, 26, 1, 2), (62, .invokestatic 140, 65, 163, 1, 0), (65, .ireturn, 66, 0, 0, 0), (66, .aload_n 0, 67, 0, 0, 0), (67, .getfield 41, 70, 7, 5, 0), (70, .getfield 90, 73, 5, 0, 0), (73, .invokevirtual 137, 76, 27, 1, 2), (76, .ireturn, 77, 0, 0, 0), (77, .aload_n 0, 78, 0, 0, 0), (78, .getfield 41, 81, 7, 5, 0), (81, .getfield 90, 84, 5, 0, 0), (84, .invokevirtual 177, 87, 33, 1, 2), (87, .ireturn, 88, 0, 0, 0), (88, .aload_n 0, 89, 0, 0, 0), (89, .getfield 31, 92, 7, 3, 0), (92, .invokevirtual 156, 95, 43, 1, 4), (95, .ireturn, 96, 0, 0, 0), (96, .aload_n 0, 97, 0, 0, 0), (97, .getfield 10, 100, 7, 0, 0), (100, .invokevirtual 72, 103, 52, 1, 6), (103, .ireturn, 104, 0, 0, 0), (104, .aload_n 0, 105, 0, 0, 0), (105, .getfield 35, 108, 7, 4, 0), (108, .invokevirtual 156, 111, 43, 1, 4), (111, .ireturn, 112, 0, 0, 0), (112, .iconst (-1), 113, 0, 0, 0), (113, .ireturn, 114, 0, 0, 0)]
def k_Z_readText : List (Nat × mE) := [(0, .aload_n 0, 1, 0, 0, 0), (1, .getfield 45, 4, 7, 6, 0), (4, .getfield 90, 7, 5, 0, 0), (7, .astore_n 1, 8, 0, 0, 0), (8, .aload_n 1, 9, 0, 0, 0), (9, .invokevirtual 231, 12, 25, 1, 2), (12, .aload_n 0, 13, 0, 0, 0), (13, .getfield 23, 16, 7, 2, 0), (16, .invokevirtual 129, 19, 37, 1, 3), (19, .iconst 0, 20, 0, 0, 0), (20, .istore_n 2, 21, 0, 0, 0), (21, .iconst 0, 22, 0, 0, 0), (22, .istore_n 3, 23, 0, 0, 0), (23, .iload_n 3, 24, 0, 0, 0), (24, .sipush 200, 27, 0, 0, 0), (27, .if_icmp .gt 79, 30, 106, 0, 0), (30, .iload_n 2, 31, 0, 0, 0), (31, .aload_n 0, 32, 0, 0, 0), (32, .getfield 10, 35, 7, 0, 0), (35, .invokevirtual 72, 38, 52, 1, 6), (38, .if_icmp .ge 68, 41, 106, 0, 0), (41, .aload_n 0, 42, 0, 0, 0), (42, .getfield 10, 45, 7, 0, 0), (45, .iload_n 2, 46, 0, 0, 0), (46, .invokevirtual 232, 49, 55, 2, 6), (49, .istore 4, 51, 0, 0, 0), (51, .aload_n 0, 52, 0, 0, 0), (52, .getfield 23, 55, 7, 2, 0), (55, .invokevirtual 73, 58, 36, 1, 3), (58, .bipush 40, 60, 0, 0, 0), (60, .if_icmp .ge 12, 63, 72, 0, 0), (63, .aload_n 1, 64, 0, 0, 0), (64, .iload 4, 66, 0, 0, 0), (66, .invokevirtual 94, 69, 30, 2, 2), (69, .ifCond .ne 5, 72, 74, 0, 0), (72, .iload_n 2, 73, 0, 0, 0), (73, .ireturn, 74, 0, 0, 0), (74, .aload_n 1, 75, 0, 0, 0), (75, .iload 4, 77, 0, 0, 0), (77, .invokevirtual 233, 80, 31, 2, 2), (80, .aload_n 0, 81, 0, 0, 0), (81, .getfield 23, 84, 7, 2, 0), (84, .iload 4, 86, 0, 0, 0), (86, .invokevirtual 103, 89, 38, 2, 3), (89, .iload_n 2, 90, 0, 0, 0), (90, .iload 4, 92, 0, 0, 0), (92, .invokestatic 157, 95, 88, 1, 0), (95, .invokestatic 160, 98, 94, 1, 0), (98, .iadd, 99, 0, 0, 0), (99, .istore_n 2, 100, 0, 0, 0), (100, .iinc 3 1, 103, 0, 0, 0), (103, .goto (-80), 106, 23, 0, 0), (106, .bipush (-4), 108, 0, 0, 0), (108, .ireturn, 109, 0, 0, 0)]
def k_Z_layTrial : List (Nat × mE) := [(0, .aload_n 0, 1, 0, 0, 0), (1, .getfield 19, 4, 7, 1, 0), (4, .aload_n 0, 5, 0, 0, 0), (5, .getfield 23, 8, 7, 2, 0), (8, .invokevirtual 123, 11, 42, 2, 3), (11, .aload_n 0, 12, 0, 0, 0), (12, .getfield 31, 15, 7, 3, 0), (15, .invokevirtual 230, 18, 44, 1, 4), (18, .aload_n 0, 19, 0, 0, 0), (19, .invokevirtual 104, 22, 83, 1, 7), (22, .return_, 23, 0, 0, 0)]
def k_Z_tellAnew : List (Nat × mE) := [(0, .aload_n 0, 1, 0, 0, 0), (1, .getfield 41, 4, 7, 5, 0), (4, .aload_n 0, 5, 0, 0, 0), (5, .getfield 19, 8, 7, 1, 0), (8, .aload_n 0, 9, 0, 0, 0), (9, .getfield 19, 12, 7, 1, 0), (12, .invokevirtual 73, 15, 36, 1, 3), (15, .invokevirtual 173, 18, 49, 3, 5), (18, .pop, 19, 0, 0, 0), (19, .return_, 20, 0, 0, 0)]
def k_Z_tryExchange : List (Nat × mE) := [(0, .aload_n 0, 1, 0, 0, 0), (1, .getfield 23, 4, 7, 2, 0), (4, .aload_n 0, 5, 0, 0, 0), (5, .getfield 19, 8, 7, 1, 0), (8, .invokevirtual 123, 11, 42, 2, 3), (11, .aload_n 0, 12, 0, 0, 0), (12, .getfield 23, 15, 7, 2, 0), (15, .iload_n 1, 16, 0, 0, 0), (16, .invokevirtual 236, 19, 41, 2, 3), (19, .aload_n 0, 20, 0, 0, 0), (20, .getfield 45, 23, 7, 6, 0), (23, .aload_n 0, 24, 0, 0, 0), (24, .getfield 23, 27, 7, 2, 0), (27, .aload_n 0, 28, 0, 0, 0), (28, .getfield 23, 31, 7, 2, 0), (31, .invokevirtual 73, 34, 36, 1, 3), (34, .invokevirtual 173, 37, 49, 3, 5), (37, .ireturn, 38, 0, 0, 0)]
def k_Z_addEdgesGoing : List (Nat × mE) := [(0, .iconst 0, 1, 0, 0, 0), (1, .istore_n 1, 2, 0, 0, 0), (2, .iload_n 1, 3, 0, 0, 0), (3, .bipush 9, 5, 0, 0, 0), (5, .if_icmp .ge 53, 8, 58, 0, 0), (8, .iload_n 1, 9, 0, 0, 0), (9, .iconst 1, 10, 0, 0, 0), (10, .iadd, 11, 0, 0, 0), (11, .istore_n 2, 12, 0, 0, 0), (12, .iload_n 2, 13, 0, 0, 0), (13, .bipush 9, 15, 0, 0, 0), (15, .if_icmp .ge 37, 18, 52, 0, 0), (18, .aload_n 0, 19, 0, 0, 0), (19, .getfield 41, 22, 7, 5, 0), (22, .getfield 90, 25, 5, 0, 0), (25, .iload_n 1, 26, 0, 0, 0), (26, .iload_n 2, 27, 0, 0, 0), (27, .invokevirtual 239, 30, 29, 3, 2), (30, .ifCond .eq 16, 33, 46, 0, 0), (33, .aload_n 0, 34, 0, 0, 0), (34, .getfield 19, 37, 7, 1, 0), (37, .iconst 3, 38, 0, 0, 0), (38, .iload_n 1, 39, 0, 0, 0), (39, .iload_n 2, 40, 0, 0, 0), (40, .invokestatic 86, 43, 87, 3, 0), (43, .invokevirtual 103, 46, 38, 2, 3), (46, .iinc 2 1, 49, 0, 0, 0), (49, .goto (-37), 52, 12, 0, 0), (52, .iinc 1 1, 55, 0, 0, 0), (55, .goto (-53), 58, 2, 0, 0), (58, .return_, 59, 0, 0, 0)]
def k_Z_addPointsGoing : List (Nat × mE) := [(0, .iconst 0, 1, 0, 0, 0), (1, .istore_n 1, 2, 0, 0, 0), (2, .iload_n 1, 3, 0, 0, 0), (3, .bipush 9, 5, 0, 0, 0), (5, .if_icmp .ge 36, 8, 41, 0, 0), (8, .aload_n 0, 9, 0, 0, 0), (9, .getfield 41, 12, 7, 5, 0), (12, .getfield 90, 15, 5, 0, 0), (15, .iload_n 1, 16, 0, 0, 0), (16, .invokevirtual 183, 19, 28, 2, 2), (19, .ifCond .eq 16, 22, 35, 0, 0), (22, .aload_n 0, 23, 0, 0, 0), (23, .getfield 19, 26, 7, 1, 0), (26, .iconst 1, 27, 0, 0, 0), (27, .iload_n 1, 28, 0, 0, 0), (28, .iload_n 1, 29, 0, 0, 0), (29, .invokestatic 86, 32, 87, 3, 0), (32, .invokevirtual 103, 35, 38, 2, 3), (35, .iinc 1 1, 38, 0, 0, 0), (38, .goto (-36), 41, 2, 0, 0), (41, .return_, 42, 0, 0, 0)]
def k_Z_actOf : List (Nat × mE) := [(0, .iload_n 0, 1, 0, 0, 0), (1, .invokestatic 83, 4, 93, 1, 0), (4, .ifCond .eq 7, 7, 11, 0, 0), (7, .iload_n 2, 8, 0, 0, 0), (8, .goto 4, 11, 12, 0, 0), (11, .iload_n 1, 12, 0, 0, 0), (12, .istore_n 3, 13, 0, 0, 0), (13, .iload_n 0, 14, 0, 0, 0), (14, .bipush 8, 16, 0, 0, 0), (16, .ishl, 17, 0, 0, 0), (17, .iload_n 1, 18, 0, 0, 0), (18, .iload_n 3, 19, 0, 0, 0), (19, .invokestatic 242, 22, 0, 2, 2), (22, .iconst 4, 23, 0, 0, 0), (23, .ishl, 24, 0, 0, 0), (24, .ior, 25, 0, 0, 0), (25, .iload_n 1, 26, 0, 0, 0), (26, .iload_n 3, 27, 0, 0, 0), (27, .invokestatic 247, 30, 0, 2, 1), (30, .ior, 31, 0, 0, 0), (31, .ireturn, 32, 0, 0, 0)]
def k_Z_kindOf : List (Nat × mE) := [(0, .iload_n 0, 1, 0, 0, 0), (1, .bipush 8, 3, 0, 0, 0), (3, .ishr, 4, 0, 0, 0), (4, .ireturn, 5, 0, 0, 0)]
def k_Z_lowOf : List (Nat × mE) := [(0, .iload_n 0, 1, 0, 0, 0), (1, .iconst 4, 2, 0, 0, 0), (2, .ishr, 3, 0, 0, 0), (3, .bipush 15, 5, 0, 0, 0), (5, .iand, 6, 0, 0, 0), (6, .ireturn, 7, 0, 0, 0)]
def k_Z_highOf : List (Nat × mE) := [(0, .iload_n 0, 1, 0, 0, 0), (1, .bipush 15, 3, 0, 0, 0), (3, .iand, 4, 0, 0, 0), (4, .ireturn, 5, 0, 0, 0)]
def k_Z_otherWay : List (Nat × mE) := [(0, .iload_n 0, 1, 0, 0, 0), (1, .invokestatic 157, 4, 88, 1, 0), (4, .iconst 1, 5, 0, 0, 0), (5, .ixor, 6, 0, 0, 0), (6, .iload_n 0, 7, 0, 0, 0), (7, .invokestatic 167, 10, 89, 1, 0), (10, .iload_n 0, 11, 0, 0, 0), (11, .invokestatic 170, 14, 90, 1, 0), (14, .invokestatic 86, 17, 87, 3, 0), (17, .ireturn, 18, 0, 0, 0)]
def k_Z_isKind : List (Nat × mE) := [(0, .iload_n 0, 1, 0, 0, 0), (1, .ifCond .lt 12, 4, 13, 0, 0), (4, .iload_n 0, 5, 0, 0, 0), (5, .iconst 3, 6, 0, 0, 0), (6, .if_icmp .gt 7, 9, 13, 0, 0), (9, .iconst 1, 10, 0, 0, 0), (10, .goto 4, 13, 14, 0, 0), (13, .iconst 0, 14, 0, 0, 0), (14, .ireturn, 15, 0, 0, 0)]
def k_Z_isOfEdge : List (Nat × mE) := [(0, .iload_n 0, 1, 0, 0, 0), (1, .iconst 2, 2, 0, 0, 0), (2, .if_icmp .eq 8, 5, 10, 0, 0), (5, .iload_n 0, 6, 0, 0, 0), (6, .iconst 3, 7, 0, 0, 0), (7, .if_icmp .ne 7, 10, 14, 0, 0), (10, .iconst 1, 11, 0, 0, 0), (11, .goto 4, 14, 15, 0, 0), (14, .iconst 0, 15, 0, 0, 0), (15, .ireturn, 16, 0, 0, 0)]
def k_Z_itemLength : List (Nat × mE) := [(0, .iload_n 0, 1, 0, 0, 0), (1, .invokestatic 83, 4, 93, 1, 0), (4, .ifCond .eq 7, 7, 11, 0, 0), (7, .iconst 4, 8, 0, 0, 0), (8, .goto 4, 11, 12, 0, 0), (11, .iconst 3, 12, 0, 0, 0), (12, .ireturn, 13, 0, 0, 0)]
def k_Z_kindOfLetter : List (Nat × mE) := [(0, .iload_n 0, 1, 0, 0, 0), (1, .lookupswitch 51 #[(101, 47), (102, 49), (118, 43), (119, 45)], 44, 0, 0, 0), (44, .iconst 0, 45, 0, 0, 0), (45, .ireturn, 46, 0, 0, 0), (46, .iconst 1, 47, 0, 0, 0), (47, .ireturn, 48, 0, 0, 0), (48, .iconst 2, 49, 0, 0, 0), (49, .ireturn, 50, 0, 0, 0), (50, .iconst 3, 51, 0, 0, 0), (51, .ireturn, 52, 0, 0, 0), (52, .iconst (-1), 53, 0, 0, 0), (53, .ireturn, 54, 0, 0, 0)]
def k_Z_letterOfKind : List (Nat × mE) := [(0, .iload_n 0, 1, 0, 0, 0), (1, .tableswitch 36 0 2 #[27, 30, 33], 28, 0, 0, 0), (28, .bipush 118, 30, 0, 0, 0), (30, .ireturn, 31, 0, 0, 0), (31, .bipush 119, 33, 0, 0, 0), (33, .ireturn, 34, 0, 0, 0), (34, .bipush 101, 36, 0, 0, 0), (36, .ireturn, 37, 0, 0, 0), (37, .bipush 102, 39, 0, 0, 0), (39, .ireturn, 40, 0, 0, 0)]
def k_Z_letterOf : List (Nat × mE) := [(0, .iload_n 0, 1, 0, 0, 0), (1, .invokestatic 157, 4, 88, 1, 0), (4, .istore_n 2, 5, 0, 0, 0), (5, .iload_n 1, 6, 0, 0, 0), (6, .ifCond .ne 8, 9, 14, 0, 0), (9, .iload_n 2, 10, 0, 0, 0), (10, .invokestatic 250, 13, 96, 1, 0), (13, .ireturn, 14, 0, 0, 0), (14, .iload_n 1, 15, 0, 0, 0), (15, .iload_n 2, 16, 0, 0, 0), (16, .invokestatic 160, 19, 94, 1, 0), (19, .iconst 1, 20, 0, 0, 0), (20, .isub, 21, 0, 0, 0), (21, .if_icmp .ne 6, 24, 27, 0, 0), (24, .bipush 59, 26, 0, 0, 0), (26, .ireturn, 27, 0, 0, 0), (27, .bipush 48, 29, 0, 0, 0), (29, .iload_n 1, 30, 0, 0, 0), (30, .iconst 1, 31, 0, 0, 0), (31, .if_icmp .ne 10, 34, 41, 0, 0), (34, .iload_n 0, 35, 0, 0, 0), (35, .invokestatic 167, 38, 89, 1, 0), (38, .goto 7, 41, 45, 0, 0), (41, .iload_n 0, 42, 0, 0, 0), (42, .invokestatic 170, 45, 90, 1, 0), (45, .iadd, 46, 0, 0, 0), (46, .ireturn, 47, 0, 0, 0)]
def k_Z_isPoint : List (Nat × mE) := [(0, .iload_n 0, 1, 0, 0, 0), (1, .ifCond .lt 13, 4, 14, 0, 0), (4, .iload_n 0, 5, 0, 0, 0), (5, .bipush 9, 7, 0, 0, 0), (7, .if_icmp .ge 7, 10, 14, 0, 0), (10, .iconst 1, 11, 0, 0, 0), (11, .goto 4, 14, 15, 0, 0), (14, .iconst 0, 15, 0, 0, 0), (15, .ireturn, 16, 0, 0, 0)]
def k_Z_isIn : List (Nat × mE) := [(0, .iload_n 0, 1, 0, 0, 0), (1, .iload_n 1, 2, 0, 0, 0), (2, .ishr, 3, 0, 0, 0), (3, .iconst 1, 4, 0, 0, 0), (4, .iand, 5, 0, 0, 0), (5, .ifCond .eq 7, 8, 12, 0, 0), (8, .iconst 1, 9, 0, 0, 0), (9, .goto 4, 12, 13, 0, 0), (12, .iconst 0, 13, 0, 0, 0), (13, .ireturn, 14, 0, 0, 0)]
def k_Z_lowestOf : List (Nat × mE) := [(0, .iload_n 0, 1, 0, 0, 0), (1, .invokestatic 253, 4, 162, 1, 0), (4, .ireturn, 5, 0, 0, 0)]
def k_M_in : List (Nat × mE) := [(0, .iload_n 0, 1, 0, 0, 0), (1, .iload_n 1, 2, 0, 0, 0), (2, .if_icmp .lt 12, 5, 14, 0, 0), (5, .iload_n 0, 6, 0, 0, 0), (6, .iload_n 2, 7, 0, 0, 0), (7, .if_icmp .gt 7, 10, 14, 0, 0), (10, .iconst 1, 11, 0, 0, 0), (11, .goto 4, 14, 15, 0, 0), (14, .iconst 0, 15, 0, 0, 0), (15, .ireturn, 16, 0, 0, 0)]
def k_M_codeOf : List (Nat × mE) := [(0, .iload_n 0, 1, 0, 0, 0), (1, .iconst 2, 2, 0, 0, 0), (2, .if_icmp .ge 15, 5, 17, 0, 0), (5, .bipush 100, 7, 0, 0, 0), (7, .iload_n 0, 8, 0, 0, 0), (8, .imul, 9, 0, 0, 0), (9, .bipush 10, 11, 0, 0, 0), (11, .iload_n 1, 12, 0, 0, 0), (12, .imul, 13, 0, 0, 0), (13, .iadd, 14, 0, 0, 0), (14, .goto 33, 17, 47, 0, 0), (17, .iload_n 1, 18, 0, 0, 0), (18, .iload_n 2, 19, 0, 0, 0), (19, .if_icmp .ge 17, 22, 36, 0, 0), (22, .bipush 100, 24, 0, 0, 0), (24, .iload_n 0, 25, 0, 0, 0), (25, .imul, 26, 0, 0, 0), (26, .bipush 10, 28, 0, 0, 0), (28, .iload_n 1, 29, 0, 0, 0), (29, .imul, 30, 0, 0, 0), (30, .iadd, 31, 0, 0, 0), (31, .iload_n 2, 32, 0, 0, 0), (32, .iadd, 33, 0, 0, 0), (33, .goto 14, 36, 47, 0, 0), (36, .bipush 100, 38, 0, 0, 0), (38, .iload_n 0, 39, 0, 0, 0), (39, .imul, 40, 0, 0, 0), (40, .bipush 10, 42, 0, 0, 0), (42, .iload_n 2, 43, 0, 0, 0), (43, .imul, 44, 0, 0, 0), (44, .iadd, 45, 0, 0, 0), (45, .iload_n 1, 46, 0, 0, 0), (46, .iadd, 47, 0, 0, 0), (47, .ireturn, 48, 0, 0, 0)]
def k_M_kindOf : List (Nat × mE) := [(0, .iload_n 0, 1, 0, 0, 0), (1, .bipush 100, 3, 0, 0, 0), (3, .idiv, 4, 0, 0, 0), (4, .ireturn, 5, 0, 0, 0)]
def k_M_oneOf : List (Nat × mE) := [(0, .iload_n 0, 1, 0, 0, 0), (1, .bipush 10, 3, 0, 0, 0), (3, .idiv, 4, 0, 0, 0), (4, .bipush 10, 6, 0, 0, 0), (6, .irem, 7, 0, 0, 0), (7, .ireturn, 8, 0, 0, 0)]
def k_M_otherOf : List (Nat × mE) := [(0, .iload_n 0, 1, 0, 0, 0), (1, .bipush 10, 3, 0, 0, 0), (3, .irem, 4, 0, 0, 0), (4, .ireturn, 5, 0, 0, 0)]
def k_M_has : List (Nat × mE) := [(0, .iload_n 0, 1, 0, 0, 0), (1, .iload_n 1, 2, 0, 0, 0), (2, .ishr, 3, 0, 0, 0), (3, .iconst 1, 4, 0, 0, 0), (4, .iand, 5, 0, 0, 0), (5, .iconst 1, 6, 0, 0, 0), (6, .if_icmp .ne 7, 9, 13, 0, 0), (9, .iconst 1, 10, 0, 0, 0), (10, .goto 4, 13, 14, 0, 0), (13, .iconst 0, 14, 0, 0, 0), (14, .ireturn, 15, 0, 0, 0)]
def k_M_may : List (Nat × mE) := [(0, .iload_n 1, 1, 0, 0, 0), (1, .invokestatic 54, 4, 104, 1, 0), (4, .istore_n 2, 5, 0, 0, 0), (5, .iload_n 1, 6, 0, 0, 0), (6, .invokestatic 58, 9, 105, 1, 0), (9, .istore_n 3, 10, 0, 0, 0), (10, .iload_n 1, 11, 0, 0, 0), (11, .invokestatic 61, 14, 103, 1, 0), (14, .tableswitch 115 0 2 #[26, 43, 69], 40, 0, 0, 0), (40, .aload_n 0, 41, 0, 0, 0), (41, .getfield 64, 44, 8, 8, 0), (44, .iload_n 2, 45, 0, 0, 0), (45, .invokestatic 67, 48, 106, 2, 0), (48, .ifCond .ne 7, 51, 55, 0, 0), (51, .iconst 1, 52, 0, 0, 0), (52, .goto 4, 55, 56, 0, 0), (55, .iconst 0, 56, 0, 0, 0), (56, .ireturn, 57, 0, 0, 0), (57, .aload_n 0, 58, 0, 0, 0), (58, .getfield 64, 61, 8, 8, 0), (61, .iload_n 2, 62, 0, 0, 0), (62, .invokestatic 67, 65, 106, 2, 0), (65, .ifCond .eq 16, 68, 81, 0, 0), (68, .aload_n 0, 69, 0, 0, 0), (69, .getfield 23, 72, 8, 9, 0), (72, .iload_n 2, 73, 0, 0, 0), (73, .iaload, 74, 0, 0, 0), (74, .ifCond .ne 7, 77, 81, 0, 0), (77, .iconst 1, 78, 0, 0, 0), (78, .goto 4, 81, 82, 0, 0), (81, .iconst 0, 82, 0, 0, 0), (82, .ireturn, 83, 0, 0, 0), (83, .iload_n 2, 84, 0, 0, 0), (84, .iload_n 3, 85, 0, 0, 0), (85, .if_icmp .eq 42, 88, 127, 0, 0), (88, .aload_n 0, 89, 0, 0, 0), (89, .getfield 64, 92, 8, 8, 0), (92, .iload_n 2, 93, 0, 0, 0), (93, .invokestatic 67, 96, 106, 2, 0), (96, .ifCond .eq 31, 99, 127, 0, 0), (99, .aload_n 0, 100, 0, 0, 0), (100, .getfield 64, 103, 8, 8, 0), (103, .iload_n 3, 104, 0, 0, 0), (104, .invokestatic 67, 107, 106, 2, 0), (107, .ifCond .eq 20, 110, 127, 0, 0), (110, .aload_n 0, 111, 0, 0, 0), (111, .getfield 23, 114, 8, 9, 0), (114, .iload_n 2, 115, 0, 0, 0), (115, .iaload, 116, 0, 0, 0), (116, .iload_n 3, 117, 0, 0, 0), (117, .invokestatic 67, 120, 106, 2, 0), (120, .ifCond .ne 7, 123, 127, 0, 0), (123, .iconst 1, 124, 0, 0, 0), (124, .goto 4, 127, 128, 0, 0), (127, .iconst 0, 128, 0, 0, 0), (128, .ireturn, 129, 0, 0, 0), (129, .aload_n 0, 130, 0, 0, 0), (130, .getfield 23, 133, 8, 9, 0), (133, .iload_n 2, 134, 0, 0, 0), (134, .iaload, 135, 0, 0, 0), (135, .iload_n 3, 136, 0, 0, 0), (136, .invokestatic 67, 139, 106, 2, 0), (139, .ireturn, 140, 0, 0, 0)]
def k_M_reach : List (Nat × mE) := [(0, .iconst 1, 1, 0, 0, 0), (1, .iload_n 1, 2, 0, 0, 0), (2, .ishl, 3, 0, 0, 0), (3, .istore_n 2, 4, 0, 0, 0), (4, .iconst 0, 5, 0, 0, 0), (5, .istore_n 3, 6, 0, 0, 0), (6, .iload_n 3, 7, 0, 0, 0), (7, .iload_n 2, 8, 0, 0, 0), (8, .if_icmp .eq 47, 11, 55, 0, 0), (11, .iload_n 2, 12, 0, 0, 0), (12, .istore_n 3, 13, 0, 0, 0), (13, .iconst 0, 14, 0, 0, 0), (14, .istore 4, 16, 0, 0, 0), (16, .iload 4, 18, 0, 0, 0), (18, .bipush 9, 20, 0, 0, 0), (20, .if_icmp .ge 32, 23, 52, 0, 0), (23, .iload_n 2, 24, 0, 0, 0), (24, .iload_n 3, 25, 0, 0, 0), (25, .iload 4, 27, 0, 0, 0), (27, .invokestatic 67, 30, 106, 2, 0), (30, .ifCond .eq 13, 33, 43, 0, 0), (33, .aload_n 0, 34, 0, 0, 0), (34, .getfield 23, 37, 8, 9, 0), (37, .iload 4, 39, 0, 0, 0), (39, .iaload, 40, 0, 0, 0), (40, .goto 4, 43, 44, 0, 0), (43, .iconst 0, 44, 0, 0, 0), (44, .ior, 45, 0, 0, 0), (45, .istore_n 2, 46, 0, 0, 0), (46, .iinc 4 1, 49, 0, 0, 0), (49, .goto (-33), 52, 16, 0, 0), (52, .goto (-46), 55, 6, 0, 0), (55, .iload_n 2, 56, 0, 0, 0), (56, .ireturn, 57, 0, 0, 0)]
def k_M_freePiece : List (Nat × mE) := [(0, .iconst 0, 1, 0, 0, 0), (1, .istore_n 1, 2, 0, 0, 0), (2, .aload_n 0, 3, 0, 0, 0), (3, .getfield 71, 6, 8, 11, 0), (6, .iload_n 1, 7, 0, 0, 0), (7, .invokestatic 67, 10, 106, 2, 0), (10, .ifCond .eq 9, 13, 19, 0, 0), (13, .iinc 1 1, 16, 0, 0, 0), (16, .goto (-14), 19, 2, 0, 0), (19, .iload_n 1, 20, 0, 0, 0), (20, .ireturn, 21, 0, 0, 0)]
def k_M_kinOf : List (Nat × mE) := [(0, .aload_n 0, 1, 0, 0, 0), (1, .getfield 32, 4, 8, 13, 0), (4, .bipush 9, 6, 0, 0, 0), (6, .iload_n 1, 7, 0, 0, 0), (7, .imul, 8, 0, 0, 0), (8, .iload_n 2, 9, 0, 0, 0), (9, .iadd, 10, 0, 0, 0), (10, .iaload, 11, 0, 0, 0), (11, .ireturn, 12, 0, 0, 0)]
def k_M_makesKin : List (Nat × mE) := [(0, .aload_n 0, 1, 0, 0, 0), (1, .getfield 32, 4, 8, 13, 0), (4, .bipush 9, 6, 0, 0, 0), (6, .iload_n 1, 7, 0, 0, 0), (7, .imul, 8, 0, 0, 0), (8, .iload_n 2, 9, 0, 0, 0), (9, .iadd, 10, 0, 0, 0), (10, .iload_n 3, 11, 0, 0, 0), (11, .iastore, 12, 0, 0, 0), (12, .aload_n 0, 13, 0, 0, 0), (13, .getfield 32, 16, 8, 13, 0), (16, .bipush 9, 18, 0, 0, 0), (18, .iload_n 2, 19, 0, 0, 0), (19, .imul, 20, 0, 0, 0), (20, .iload_n 1, 21, 0, 0, 0), (21, .iadd, 22, 0, 0, 0), (22, .iload_n 3, 23, 0, 0, 0), (23, .iastore, 24, 0, 0, 0), (24, .return_, 25, 0, 0, 0)]
def k_M_ends : List (Nat × mE) := [(0, .aload_n 0, 1, 0, 0, 0), (1, .getfield 35, 4, 8, 14, 0), (4, .aload_n 0, 5, 0, 0, 0), (5, .getfield 74, 8, 8, 16, 0), (8, .iload_n 1, 9, 0, 0, 0), (9, .iastore, 10, 0, 0, 0), (10, .aload_n 0, 11, 0, 0, 0), (11, .getfield 38, 14, 8, 15, 0), (14, .aload_n 0, 15, 0, 0, 0), (15, .getfield 74, 18, 8, 16, 0), (18, .iload_n 2, 19, 0, 0, 0), (19, .iastore, 20, 0, 0, 0), (20, .aload_n 0, 21, 0, 0, 0), (21, .dup, 22, 0, 0, 0), (22, .getfield 74, 25, 8, 16, 0), (25, .iconst 1, 26, 0, 0, 0), (26, .iadd, 27, 0, 0, 0), (27, .putfield 74, 30, 8, 16, 0), (30, .return_, 31, 0, 0, 0)]
def k_M_goes : List (Nat × mE) := [(0, .iconst 0, 1, 0, 0, 0), (1, .istore_n 3, 2, 0, 0, 0), (2, .iconst 0, 3, 0, 0, 0), (3, .istore 4, 5, 0, 0, 0), (5, .iload 4, 7, 0, 0, 0), (7, .bipush 9, 9, 0, 0, 0), (9, .if_icmp .ge 50, 12, 59, 0, 0), (12, .aload_n 0, 13, 0, 0, 0), (13, .getfield 71, 16, 8, 11, 0), (16, .iload 4, 18, 0, 0, 0), (18, .invokestatic 67, 21, 106, 2, 0), (21, .ifCond .eq 30, 24, 51, 0, 0), (24, .iload 4, 26, 0, 0, 0), (26, .iload_n 1, 27, 0, 0, 0), (27, .if_icmp .eq 24, 30, 51, 0, 0), (30, .aload_n 0, 31, 0, 0, 0), (31, .iload_n 1, 32, 0, 0, 0), (32, .iload 4, 34, 0, 0, 0), (34, .invokevirtual 77, 37, 110, 3, 8), (37, .iload_n 3, 38, 0, 0, 0), (38, .if_icmp .le 13, 41, 51, 0, 0), (41, .aload_n 0, 42, 0, 0, 0), (42, .iload_n 1, 43, 0, 0, 0), (43, .iload 4, 45, 0, 0, 0), (45, .invokevirtual 77, 48, 110, 3, 8), (48, .goto 4, 51, 52, 0, 0), (51, .iload_n 3, 52, 0, 0, 0), (52, .istore_n 3, 53, 0, 0, 0), (53, .iinc 4 1, 56, 0, 0, 0), (56, .goto (-51), 59, 5, 0, 0), (59, .aload_n 0, 60, 0, 0, 0), (60, .iload_n 3, 61, 0, 0, 0), (61, .ifCond .ne 12, 64, 73, 0, 0), (64, .aload_n 0, 65, 0, 0, 0), (65, .getfield 29, 68, 8, 12, 0), (68, .iload_n 1, 69, 0, 0, 0), (69, .iaload, 70, 0, 0, 0), (70, .goto 4, 73, 74, 0, 0), (73, .iload_n 3, 74, 0, 0, 0), (74, .iload_n 2, 75, 0, 0, 0), (75, .invokevirtual 81, 78, 112, 3, 8), (78, .aload_n 0, 79, 0, 0, 0), (79, .dup, 80, 0, 0, 0), (80, .getfield 71, 83, 8, 11, 0), (83, .iconst 1, 84, 0, 0, 0), (84, .iload_n 1, 85, 0, 0, 0), (85, .ishl, 86, 0, 0, 0), (86, .iconst (-1), 87, 0, 0, 0), (87, .ixor, 88, 0, 0, 0), (88, .iand, 89, 0, 0, 0), (89, .putfield 71, 92, 8, 11, 0), (92, .return_, 93, 0, 0, 0)]
def k_M_comes : List (Nat × mE) := [(0, .aload_n 0, 1, 0, 0, 0), (1, .invokevirtual 85, 4, 109, 1, 8), (4, .istore_n 3, 5, 0, 0, 0), (5, .aload_n 0, 6, 0, 0, 0), (6, .dup, 7, 0, 0, 0), (7, .getfield 64, 10, 8, 8, 0), (10, .iconst 1, 11, 0, 0, 0), (11, .iload_n 1, 12, 0, 0, 0), (12, .ishl, 13, 0, 0, 0), (13, .ior, 14, 0, 0, 0), (14, .putfield 64, 17, 8, 8, 0), (17, .aload_n 0, 18, 0, 0, 0), (18, .getfield 23, 21, 8, 9, 0), (21, .iload_n 1, 22, 0, 0, 0), (22, .iconst 0, 23, 0, 0, 0), (23, .iastore, 24, 0, 0, 0), (24, .aload_n 0, 25, 0, 0, 0), (25, .getfield 26, 28, 8, 10, 0), (28, .iload_n 1, 29, 0, 0, 0), (29, .iload_n 3, 30, 0, 0, 0), (30, .iastore, 31, 0, 0, 0), (31, .aload_n 0, 32, 0, 0, 0), (32, .dup, 33, 0, 0, 0), (33, .getfield 71, 36, 8, 11, 0), (36, .iconst 1, 37, 0, 0, 0), (37, .iload_n 3, 38, 0, 0, 0), (38, .ishl, 39, 0, 0, 0), (39, .ior, 40, 0, 0, 0), (40, .putfield 71, 43, 8, 11, 0), (43, .aload_n 0, 44, 0, 0, 0), (44, .getfield 29, 47, 8, 12, 0), (47, .iload_n 3, 48, 0, 0, 0), (48, .iload_n 2, 49, 0, 0, 0), (49, .iastore, 50, 0, 0, 0), (50, .iconst 0, 51, 0, 0, 0), (51, .istore 4, 53, 0, 0, 0), (53, .iload 4, 55, 0, 0, 0), (55, .bipush 9, 57, 0, 0, 0), (57, .if_icmp .ge 17, 60, 74, 0, 0), (60, .aload_n 0, 61, 0, 0, 0), (61, .iload_n 3, 62, 0, 0, 0), (62, .iload 4, 64, 0, 0, 0), (64, .iconst 0, 65, 0, 0, 0), (65, .invokevirtual 89, 68, 111, 4, 8), (68, .iinc 4 1, 71, 0, 0, 0), (71, .goto (-18), 74, 53, 0, 0), (74, .return_, 75, 0, 0, 0)]
def k_M_parts : List (Nat × mE) := [(0, .aload_n 0, 1, 0, 0, 0), (1, .getfield 23, 4, 8, 9, 0), (4, .iload_n 1, 5, 0, 0, 0), (5, .dup2, 6, 0, 0, 0), (6, .iaload, 7, 0, 0, 0), (7, .iconst 1, 8, 0, 0, 0), (8, .iload_n 2, 9, 0, 0, 0), (9, .ishl, 10, 0, 0, 0), (10, .iconst (-1), 11, 0, 0, 0), (11, .ixor, 12, 0, 0, 0), (12, .iand, 13, 0, 0, 0), (13, .iastore, 14, 0, 0, 0), (14, .aload_n 0, 15, 0, 0, 0), (15, .getfield 23, 18, 8, 9, 0), (18, .iload_n 2, 19, 0, 0, 0), (19, .dup2, 20, 0, 0, 0), (20, .iaload, 21, 0, 0, 0), (21, .iconst 1, 22, 0, 0, 0), (22, .iload_n 1, 23, 0, 0, 0), (23, .ishl, 24, 0, 0, 0), (24, .iconst (-1), 25, 0, 0, 0), (25, .ixor, 26, 0, 0, 0), (26, .iand, 27, 0, 0, 0), (27, .iastore, 28, 0, 0, 0), (28, .aload_n 0, 29, 0, 0, 0), (29, .iload_n 2, 30, 0, 0, 0), (30, .invokevirtual 93, 33, 108, 2, 8), (33, .istore 4, 35, 0, 0, 0), (35, .iload 4, 37, 0, 0, 0), (37, .iload_n 1, 38, 0, 0, 0), (38, .invokestatic 67, 41, 106, 2, 0), (41, .ifCond .eq 4, 44, 45, 0, 0), (44, .return_, 45, 0, 0, 0), (45, .aload_n 0, 46, 0, 0, 0), (46, .getfield 26, 49, 8, 10, 0), (49, .iload_n 1, 50, 0, 0, 0), (50, .iaload, 51, 0, 0, 0), (51, .istore 5, 53, 0, 0, 0), (53, .aload_n 0, 54, 0, 0, 0), (54, .invokevirtual 85, 57, 109, 1, 8), (57, .istore 6, 59, 0, 0, 0), (59, .aload_n 0, 60, 0, 0, 0), (60, .dup, 61, 0, 0, 0), (61, .getfield 71, 64, 8, 11, 0), (64, .iconst 1, 65, 0, 0, 0), (65, .iload 6, 67, 0, 0, 0), (67, .ishl, 68, 0, 0, 0), (68, .ior, 69, 0, 0, 0), (69, .putfield 71, 72, 8, 11, 0), (72, .aload_n 0, 73, 0, 0, 0), (73, .getfield 29, 76, 8, 12, 0), (76, .iload 6, 78, 0, 0, 0), (78, .aload_n 0, 79, 0, 0, 0), (79, .getfield 29, 82, 8, 12, 0), (82, .iload 5, 84, 0, 0, 0), (84, .iaload, 85, 0, 0, 0), (85, .iastore, 86, 0, 0, 0), (86, .iconst 0, 87, 0, 0, 0), (87, .istore 7, 89, 0, 0, 0), (89, .iload 7, 91, 0, 0, 0), (91, .bipush 9, 93, 0, 0, 0), (93, .if_icmp .ge 36, 96, 129, 0, 0), (96, .aload_n 0, 97, 0, 0, 0), (97, .iload 6, 99, 0, 0, 0), (99, .iload 7, 101, 0, 0, 0), (101, .iload 7, 103, 0, 0, 0), (103, .iload 6, 105, 0, 0, 0), (105, .if_icmp .ne 7, 108, 112, 0, 0), (108, .iconst 0, 109, 0, 0, 0), (109, .goto 11, 112, 120, 0, 0), (112, .aload_n 0, 113, 0, 0, 0), (113, .iload 5, 115, 0, 0, 0), (115, .iload 7, 117, 0, 0, 0), (117, .invokevirtual 77, 120, 110, 3, 8), (120, .invokevirtual 89, 123, 111, 4, 8), (123, .iinc 7 1, 126, 0, 0, 0), (126, .goto (-37), 129, 89, 0, 0), (129, .aload_n 0, 130, 0, 0, 0), (130, .iload 6, 132, 0, 0, 0), (132, .iload 5, 134, 0, 0, 0), (134, .iload_n 3, 135, 0, 0, 0), (135, .invokevirtual 89, 138, 111, 4, 8), (138, .iconst 0, 139, 0, 0, 0), (139, .istore 7, 141, 0, 0, 0), (141, .iload 7, 143, 0, 0, 0), (143, .bipush 9, 145, 0, 0, 0), (145, .if_icmp .ge 38, 148, 183, 0, 0), (148, .aload_n 0, 149, 0, 0, 0), (149, .getfield 26, 152, 8, 10, 0), (152, .iload 7, 154, 0, 0, 0), (154, .iload 4, 156, 0, 0, 0), (156, .iload 7, 158, 0, 0, 0), (158, .invokestatic 67, 161, 106, 2, 0), (161, .ifCond .eq 8, 164, 169, 0, 0), (164, .iload 6, 166, 0, 0, 0), (166, .goto 10, 169, 176, 0, 0), (169, .aload_n 0, 170, 0, 0, 0), (170, .getfield 26, 173, 8, 10, 0), (173, .iload 7, 175, 0, 0, 0), (175, .iaload, 176, 0, 0, 0), (176, .iastore, 177, 0, 0, 0), (177, .iinc 7 1, 180, 0, 0, 0), (180, .goto (-39), 183, 141, 0, 0), (183, .return_, 184, 0, 0, 0)]
def k_M_bindsNear : List (Nat × mE) := [(0, .iconst 0, 1, 0, 0, 0), (1, .istore 4, 3, 0, 0, 0), (3, .iload 4, 5, 0, 0, 0), (5, .bipush 9, 7, 0, 0, 0), (7, .if_icmp .ge 156, 10, 163, 0, 0), (10, .iconst 0, 11, 0, 0, 0), (11, .istore 5, 13, 0, 0, 0), (13, .iload 5, 15, 0, 0, 0), (15, .bipush 9, 17, 0, 0, 0), (17, .if_icmp .ge 140, 20, 157, 0, 0), (20, .aload_n 0, 21, 0, 0, 0), (21, .getfield 71, 24, 8, 11, 0), (24, .iload 4, 26, 0, 0, 0), (26, .invokestatic 67, 29, 106, 2, 0), (29, .ifCond .eq 50, 32, 79, 0, 0), (32, .aload_n 0, 33, 0, 0, 0), (33, .getfield 71, 36, 8, 11, 0), (36, .iload 5, 38, 0, 0, 0), (38, .invokestatic 67, 41, 106, 2, 0), (41, .ifCond .eq 38, 44, 79, 0, 0), (44, .iload 4, 46, 0, 0, 0), (46, .iload 5, 48, 0, 0, 0), (48, .if_icmp .eq 31, 51, 79, 0, 0), (51, .iload 4, 53, 0, 0, 0), (53, .iload_n 1, 54, 0, 0, 0), (54, .if_icmp .eq 25, 57, 79, 0, 0), (57, .iload 4, 59, 0, 0, 0), (59, .iload_n 2, 60, 0, 0, 0), (60, .if_icmp .eq 19, 63, 79, 0, 0), (63, .iload 5, 65, 0, 0, 0), (65, .iload_n 1, 66, 0, 0, 0), (66, .if_icmp .eq 13, 69, 79, 0, 0), (69, .iload 5, 71, 0, 0, 0), (71, .iload_n 2, 72, 0, 0, 0), (72, .if_icmp .eq 7, 75, 79, 0, 0), (75, .iconst 1, 76, 0, 0, 0), (76, .goto 4, 79, 80, 0, 0), (79, .iconst 0, 80, 0, 0, 0), (80, .istore 6, 82, 0, 0, 0), (82, .iload 6, 84, 0, 0, 0), (84, .ifCond .eq 67, 87, 151, 0, 0), (87, .aload_n 0, 88, 0, 0, 0), (88, .iload_n 1, 89, 0, 0, 0), (89, .iload 4, 91, 0, 0, 0), (91, .invokevirtual 77, 94, 110, 3, 8), (94, .iload_n 3, 95, 0, 0, 0), (95, .if_icmp .le 56, 98, 151, 0, 0), (98, .aload_n 0, 99, 0, 0, 0), (99, .iload_n 2, 100, 0, 0, 0), (100, .iload 5, 102, 0, 0, 0), (102, .invokevirtual 77, 105, 110, 3, 8), (105, .iload_n 3, 106, 0, 0, 0), (106, .if_icmp .le 45, 109, 151, 0, 0), (109, .aload_n 0, 110, 0, 0, 0), (110, .iload 4, 112, 0, 0, 0), (112, .iload 5, 114, 0, 0, 0), (114, .aload_n 0, 115, 0, 0, 0), (115, .iload_n 1, 116, 0, 0, 0), (116, .iload 4, 118, 0, 0, 0), (118, .invokevirtual 77, 121, 110, 3, 8), (121, .aload_n 0, 122, 0, 0, 0), (122, .iload_n 2, 123, 0, 0, 0), (123, .iload 5, 125, 0, 0, 0), (125, .invokevirtual 77, 128, 110, 3, 8), (128, .if_icmp .ge 13, 131, 141, 0, 0), (131, .aload_n 0, 132, 0, 0, 0), (132, .iload_n 1, 133, 0, 0, 0), (133, .iload 4, 135, 0, 0, 0), (135, .invokevirtual 77, 138, 110, 3, 8), (138, .goto 10, 141, 148, 0, 0), (141, .aload_n 0, 142, 0, 0, 0), (142, .iload_n 2, 143, 0, 0, 0), (143, .iload 5, 145, 0, 0, 0), (145, .invokevirtual 77, 148, 110, 3, 8), (148, .invokevirtual 89, 151, 111, 4, 8), (151, .iinc 5 1, 154, 0, 0, 0), (154, .goto (-141), 157, 13, 0, 0), (157, .iinc 4 1, 160, 0, 0, 0), (160, .goto (-157), 163, 3, 0, 0), (163, .return_, 164, 0, 0, 0)]
def k_M_joins : List (Nat × mE) := [(0, .aload_n 0, 1, 0, 0, 0), (1, .getfield 23, 4, 8, 9, 0), (4, .iload_n 1, 5, 0, 0, 0), (5, .dup2, 6, 0, 0, 0), (6, .iaload, 7, 0, 0, 0), (7, .iconst 1, 8, 0, 0, 0), (8, .iload_n 2, 9, 0, 0, 0), (9, .ishl, 10, 0, 0, 0), (10, .ior, 11, 0, 0, 0), (11, .iastore, 12, 0, 0, 0), (12, .aload_n 0, 13, 0, 0, 0), (13, .getfield 23, 16, 8, 9, 0), (16, .iload_n 2, 17, 0, 0, 0), (17, .dup2, 18, 0, 0, 0), (18, .iaload, 19, 0, 0, 0), (19, .iconst 1, 20, 0, 0, 0), (20, .iload_n 1, 21, 0, 0, 0), (21, .ishl, 22, 0, 0, 0), (22, .ior, 23, 0, 0, 0), (23, .iastore, 24, 0, 0, 0), (24, .aload_n 0, 25, 0, 0, 0), (25, .getfield 26, 28, 8, 10, 0), (28, .iload_n 1, 29, 0, 0, 0), (29, .iaload, 30, 0, 0, 0), (30, .istore 4, 32, 0, 0, 0), (32, .aload_n 0, 33, 0, 0, 0), (33, .getfield 26, 36, 8, 10, 0), (36, .iload_n 2, 37, 0, 0, 0), (37, .iaload, 38, 0, 0, 0), (38, .istore 5, 40, 0, 0, 0), (40, .iload 4, 42, 0, 0, 0), (42, .iload 5, 44, 0, 0, 0), (44, .if_icmp .ne 4, 47, 48, 0, 0), (47, .return_, 48, 0, 0, 0), (48, .aload_n 0, 49, 0, 0, 0), (49, .iload 4, 51, 0, 0, 0), (51, .iload 5, 53, 0, 0, 0), (53, .invokevirtual 77, 56, 110, 3, 8), (56, .istore 6, 58, 0, 0, 0), (58, .aload_n 0, 59, 0, 0, 0), (59, .getfield 29, 62, 8, 12, 0), (62, .iload 4, 64, 0, 0, 0), (64, .iaload, 65, 0, 0, 0), (65, .aload_n 0, 66, 0, 0, 0), (66, .getfield 29, 69, 8, 12, 0), (69, .iload 5, 71, 0, 0, 0), (71, .iaload, 72, 0, 0, 0), (72, .if_icmp .ge 13, 75, 85, 0, 0), (75, .aload_n 0, 76, 0, 0, 0), (76, .getfield 29, 79, 8, 12, 0), (79, .iload 4, 81, 0, 0, 0), (81, .iaload, 82, 0, 0, 0), (82, .goto 10, 85, 92, 0, 0), (85, .aload_n 0, 86, 0, 0, 0), (86, .getfield 29, 89, 8, 12, 0), (89, .iload 5, 91, 0, 0, 0), (91, .iaload, 92, 0, 0, 0), (92, .istore 7, 94, 0, 0, 0), (94, .aload_n 0, 95, 0, 0, 0), (95, .getfield 29, 98, 8, 12, 0), (98, .iload 4, 100, 0, 0, 0), (100, .iaload, 101, 0, 0, 0), (101, .aload_n 0, 102, 0, 0, 0), (102, .getfield 29, 105, 8, 12, 0), (105, .iload 5, 107, 0, 0, 0), (107, .iaload, 108, 0, 0, 0), (108, .iadd, 109, 0, 0, 0), (109, .iload 7, 111, 0, 0, 0), (111, .isub, 112, 0, 0, 0), (112, .istore 8, 114, 0, 0, 0), (114, .aload_n 0, 115, 0, 0, 0), (115, .iload 6, 117, 0, 0, 0), (117, .ifCond .le 8, 120, 125, 0, 0), (120, .iload 6, 122, 0, 0, 0), (122, .goto 5, 125, 127, 0, 0), (125, .iload 8, 127, 0, 0, 0), (127, .iload_n 3, 128, 0, 0, 0), (128, .invokevirtual 81, 131, 112, 3, 8), (131, .iload 6, 133, 0, 0, 0), (133, .ifCond .ne 98, 136, 231, 0, 0), (136, .iconst 0, 137, 0, 0, 0), (137, .istore 9, 139, 0, 0, 0), (139, .iload 9, 141, 0, 0, 0), (141, .bipush 9, 143, 0, 0, 0), (143, .if_icmp .ge 88, 146, 231, 0, 0), (146, .iload 9, 148, 0, 0, 0), (148, .iload 4, 150, 0, 0, 0), (150, .if_icmp .eq 44, 153, 194, 0, 0), (153, .iload 9, 155, 0, 0, 0), (155, .iload 5, 157, 0, 0, 0), (157, .if_icmp .eq 37, 160, 194, 0, 0), (160, .aload_n 0, 161, 0, 0, 0), (161, .getfield 71, 164, 8, 11, 0), (164, .iload 9, 166, 0, 0, 0), (166, .invokestatic 67, 169, 106, 2, 0), (169, .ifCond .eq 29, 172, 198, 0, 0), (172, .aload_n 0, 173, 0, 0, 0), (173, .iload 4, 175, 0, 0, 0), (175, .iload 9, 177, 0, 0, 0), (177, .invokevirtual 77, 180, 110, 3, 8), (180, .ifCond .gt 14, 183, 194, 0, 0), (183, .aload_n 0, 184, 0, 0, 0), (184, .iload 5, 186, 0, 0, 0), (186, .iload 9, 188, 0, 0, 0), (188, .invokevirtual 77, 191, 110, 3, 8), (191, .ifCond .le 7, 194, 198, 0, 0), (194, .iconst 1, 195, 0, 0, 0), (195, .goto 4, 198, 199, 0, 0), (198, .iconst 0, 199, 0, 0, 0), (199, .istore 10, 201, 0, 0, 0), (201, .aload_n 0, 202, 0, 0, 0), (202, .getfield 29, 205, 8, 12, 0), (205, .iload 9, 207, 0, 0, 0), (207, .iload 10, 209, 0, 0, 0), (209, .ifCond .eq 8, 212, 217, 0, 0), (212, .iload 7, 214, 0, 0, 0), (214, .goto 10, 217, 224, 0, 0), (217, .aload_n 0, 218, 0, 0, 0), (218, .getfield 29, 221, 8, 12, 0), (221, .iload 9, 223, 0, 0, 0), (223, .iaload, 224, 0, 0, 0), (224, .iastore, 225, 0, 0, 0), (225, .iinc 9 1, 228, 0, 0, 0), (228, .goto (-89), 231, 139, 0, 0), (231, .aload_n 0, 232, 0, 0, 0), (232, .iload 4, 234, 0, 0, 0), (234, .iload 5, 236, 0, 0, 0), (236, .iload 6, 238, 0, 0, 0), (238, .invokevirtual 96, 241, 116, 4, 8), (241, .aload_n 0, 242, 0, 0, 0), (242, .dup, 243, 0, 0, 0), (243, .getfield 71, 246, 8, 11, 0), (246, .iconst 1, 247, 0, 0, 0), (247, .iload 5, 249, 0, 0, 0), (249, .ishl, 250, 0, 0, 0), (250, .iconst (-1), 251, 0, 0, 0), (251, .ixor, 252, 0, 0, 0), (252, .iand, 253, 0, 0, 0), (253, .putfield 71, 256, 8, 11, 0), (256, .iconst 0, 257, 0, 0, 0), (257, .istore 9, 259, 0, 0, 0), (259, .iload 9, 261, 0, 0, 0), (261, .bipush 9, 263, 0, 0, 0), (263, .if_icmp .ge 63, 266, 326, 0, 0), (266, .aload_n 0, 267, 0, 0, 0), (267, .getfield 71, 270, 8, 11, 0), (270, .iload 9, 272, 0, 0, 0), (272, .invokestatic 67, 275, 106, 2, 0), (275, .ifCond .eq 45, 278, 320, 0, 0), (278, .iload 9, 280, 0, 0, 0), (280, .iload 4, 282, 0, 0, 0), (282, .if_icmp .eq 38, 285, 320, 0, 0), (285, .aload_n 0, 286, 0, 0, 0), (286, .iload 5, 288, 0, 0, 0), (288, .iload 9, 290, 0, 0, 0), (290, .invokevirtual 77, 293, 110, 3, 8), (293, .aload_n 0, 294, 0, 0, 0), (294, .iload 4, 296, 0, 0, 0), (296, .iload 9, 298, 0, 0, 0), (298, .invokevirtual 77, 301, 110, 3, 8), (301, .if_icmp .le 19, 304, 320, 0, 0), (304, .aload_n 0, 305, 0, 0, 0), (305, .iload 4, 307, 0, 0, 0), (307, .iload 9, 309, 0, 0, 0), (309, .aload_n 0, 310, 0, 0, 0), (310, .iload 5, 312, 0, 0, 0), (312, .iload 9, 314, 0, 0, 0), (314, .invokevirtual 77, 317, 110, 3, 8), (317, .invokevirtual 89, 320, 111, 4, 8), (320, .iinc 9 1, 323, 0, 0, 0), (323, .goto (-64), 326, 259, 0, 0), (326, .iconst 0, 327, 0, 0, 0), (327, .istore 9, 329, 0, 0, 0), (329, .iload 9, 331, 0, 0, 0), (331, .bipush 9, 333, 0, 0, 0), (333, .if_icmp .ge 52, 336, 385, 0, 0), (336, .aload_n 0, 337, 0, 0, 0), (337, .getfield 26, 340, 8, 10, 0), (340, .iload 9, 342, 0, 0, 0), (342, .aload_n 0, 343, 0, 0, 0), (343, .getfield 64, 346, 8, 8, 0), (346, .iload 9, 348, 0, 0, 0), (348, .invokestatic 67, 351, 106, 2, 0), (351, .ifCond .eq 20, 354, 371, 0, 0), (354, .aload_n 0, 355, 0, 0, 0), (355, .getfield 26, 358, 8, 10, 0), (358, .iload 9, 360, 0, 0, 0), (360, .iaload, 361, 0, 0, 0), (361, .iload 5, 363, 0, 0, 0), (363, .if_icmp .ne 8, 366, 371, 0, 0), (366, .iload 4, 368, 0, 0, 0), (368, .goto 10, 371, 378, 0, 0), (371, .aload_n 0, 372, 0, 0, 0), (372, .getfield 26, 375, 8, 10, 0), (375, .iload 9, 377, 0, 0, 0), (377, .iaload, 378, 0, 0, 0), (378, .iastore, 379, 0, 0, 0), (379, .iinc 9 1, 382, 0, 0, 0), (382, .goto (-53), 385, 329, 0, 0), (385, .return_, 386, 0, 0, 0)]
def k_M_does : List (Nat × mE) := [(0, .iload_n 1, 1, 0, 0, 0), (1, .invokestatic 54, 4, 104, 1, 0), (4, .istore_n 3, 5, 0, 0, 0), (5, .iload_n 1, 6, 0, 0, 0), (6, .invokestatic 58, 9, 105, 1, 0), (9, .istore 4, 11, 0, 0, 0), (11, .iload_n 1, 12, 0, 0, 0), (12, .invokestatic 61, 15, 103, 1, 0), (15, .tableswitch 73 0 2 #[25, 34, 62], 40, 0, 0, 0), (40, .aload_n 0, 41, 0, 0, 0), (41, .iload_n 3, 42, 0, 0, 0), (42, .iload_n 2, 43, 0, 0, 0), (43, .invokevirtual 99, 46, 114, 3, 8), (46, .goto 50, 49, 96, 0, 0), (49, .aload_n 0, 50, 0, 0, 0), (50, .dup, 51, 0, 0, 0), (51, .getfield 64, 54, 8, 8, 0), (54, .iconst 1, 55, 0, 0, 0), (55, .iload_n 3, 56, 0, 0, 0), (56, .ishl, 57, 0, 0, 0), (57, .iconst (-1), 58, 0, 0, 0), (58, .ixor, 59, 0, 0, 0), (59, .iand, 60, 0, 0, 0), (60, .putfield 64, 63, 8, 8, 0), (63, .aload_n 0, 64, 0, 0, 0), (64, .aload_n 0, 65, 0, 0, 0), (65, .getfield 26, 68, 8, 10, 0), (68, .iload_n 3, 69, 0, 0, 0), (69, .iaload, 70, 0, 0, 0), (70, .iload_n 2, 71, 0, 0, 0), (71, .invokevirtual 102, 74, 113, 3, 8), (74, .goto 22, 77, 96, 0, 0), (77, .aload_n 0, 78, 0, 0, 0), (78, .iload_n 3, 79, 0, 0, 0), (79, .iload 4, 81, 0, 0, 0), (81, .iload_n 2, 82, 0, 0, 0), (82, .invokevirtual 105, 85, 117, 4, 8), (85, .goto 11, 88, 96, 0, 0), (88, .aload_n 0, 89, 0, 0, 0), (89, .iload_n 3, 90, 0, 0, 0), (90, .iload 4, 92, 0, 0, 0), (92, .iload_n 2, 93, 0, 0, 0), (93, .invokevirtual 108, 96, 115, 4, 8), (96, .return_, 97, 0, 0, 0)]
def k_M_begins : List (Nat × mE) := [(0, .aload_n 0, 1, 0, 0, 0), (1, .iconst 0, 2, 0, 0, 0), (2, .putfield 64, 5, 8, 8, 0), (5, .aload_n 0, 6, 0, 0, 0), (6, .iconst 0, 7, 0, 0, 0), (7, .putfield 71, 10, 8, 11, 0), (10, .aload_n 0, 11, 0, 0, 0), (11, .iconst 0, 12, 0, 0, 0), (12, .putfield 74, 15, 8, 16, 0), (15, .iconst 0, 16, 0, 0, 0), (16, .istore_n 1, 17, 0, 0, 0), (17, .iload_n 1, 18, 0, 0, 0), (18, .bipush 9, 20, 0, 0, 0), (20, .if_icmp .ge 23, 23, 43, 0, 0), (23, .aload_n 0, 24, 0, 0, 0), (24, .getfield 23, 27, 8, 9, 0), (27, .iload_n 1, 28, 0, 0, 0), (28, .iconst 0, 29, 0, 0, 0), (29, .iastore, 30, 0, 0, 0), (30, .aload_n 0, 31, 0, 0, 0), (31, .getfield 26, 34, 8, 10, 0), (34, .iload_n 1, 35, 0, 0, 0), (35, .iconst 0, 36, 0, 0, 0), (36, .iastore, 37, 0, 0, 0), (37, .iinc 1 1, 40, 0, 0, 0), (40, .goto (-23), 43, 17, 0, 0), (43, .return_, 44, 0, 0, 0)]
def k_M_runs : List (Nat × mE) := [(0, .aload_n 0, 1, 0, 0, 0), (1, .invokevirtual 111, 4, 119, 1, 8), (4, .iconst 1, 5, 0, 0, 0), (5, .istore_n 2, 6, 0, 0, 0), (6, .iload_n 2, 7, 0, 0, 0), (7, .iload_n 1, 8, 0, 0, 0), (8, .if_icmp .gt 35, 11, 43, 0, 0), (11, .aload_n 0, 12, 0, 0, 0), (12, .aload_n 0, 13, 0, 0, 0), (13, .getfield 13, 16, 8, 3, 0), (16, .iload_n 2, 17, 0, 0, 0), (17, .iaload, 18, 0, 0, 0), (18, .invokevirtual 114, 21, 107, 2, 8), (21, .ifCond .ne 5, 24, 26, 0, 0), (24, .iconst 0, 25, 0, 0, 0), (25, .ireturn, 26, 0, 0, 0), (26, .aload_n 0, 27, 0, 0, 0), (27, .aload_n 0, 28, 0, 0, 0), (28, .getfield 13, 31, 8, 3, 0), (31, .iload_n 2, 32, 0, 0, 0), (32, .iaload, 33, 0, 0, 0), (33, .iload_n 2, 34, 0, 0, 0), (34, .invokevirtual 118, 37, 118, 3, 8), (37, .iinc 2 1, 40, 0, 0, 0), (40, .goto (-34), 43, 6, 0, 0), (43, .iconst 1, 44, 0, 0, 0), (44, .ireturn, 45, 0, 0, 0)]
def k_M_lowestOf : List (Nat × mE) := [(0, .iconst 0, 1, 0, 0, 0), (1, .istore_n 2, 2, 0, 0, 0), (2, .aload_n 0, 3, 0, 0, 0), (3, .getfield 64, 6, 8, 8, 0), (6, .iload_n 2, 7, 0, 0, 0), (7, .invokestatic 67, 10, 106, 2, 0), (10, .ifCond .eq 13, 13, 23, 0, 0), (13, .aload_n 0, 14, 0, 0, 0), (14, .getfield 26, 17, 8, 10, 0), (17, .iload_n 2, 18, 0, 0, 0), (18, .iaload, 19, 0, 0, 0), (19, .iload_n 1, 20, 0, 0, 0), (20, .if_icmp .eq 9, 23, 29, 0, 0), (23, .iinc 2 1, 26, 0, 0, 0), (26, .goto (-24), 29, 2, 0, 0), (29, .iload_n 2, 30, 0, 0, 0), (30, .ireturn, 31, 0, 0, 0)]
def k_M_runsAll : List (Nat × mE) := [(0, .aload_n 0, 1, 0, 0, 0), (1, .aload_n 0, 2, 0, 0, 0), (2, .getfield 13, 5, 8, 3, 0), (5, .iconst 0, 6, 0, 0, 0), (6, .iaload, 7, 0, 0, 0), (7, .invokevirtual 121, 10, 120, 2, 8), (10, .ifCond .ne 5, 13, 15, 0, 0), (13, .iconst 0, 14, 0, 0, 0), (14, .ireturn, 15, 0, 0, 0), (15, .iconst 0, 16, 0, 0, 0), (16, .istore_n 1, 17, 0, 0, 0), (17, .iload_n 1, 18, 0, 0, 0), (18, .bipush 9, 20, 0, 0, 0), (20, .if_icmp .ge 62, 23, 82, 0, 0), (23, .aload_n 0, 24, 0, 0, 0), (24, .getfield 64, 27, 8, 8, 0), (27, .iload_n 1, 28, 0, 0, 0), (28, .invokestatic 67, 31, 106, 2, 0), (31, .ifCond .eq 45, 34, 76, 0, 0), (34, .aload_n 0, 35, 0, 0, 0), (35, .getfield 71, 38, 8, 11, 0), (38, .aload_n 0, 39, 0, 0, 0), (39, .getfield 26, 42, 8, 10, 0), (42, .iload_n 1, 43, 0, 0, 0), (43, .iaload, 44, 0, 0, 0), (44, .invokestatic 67, 47, 106, 2, 0), (47, .ifCond .eq 29, 50, 76, 0, 0), (50, .aload_n 0, 51, 0, 0, 0), (51, .aload_n 0, 52, 0, 0, 0), (52, .getfield 26, 55, 8, 10, 0), (55, .iload_n 1, 56, 0, 0, 0), (56, .iaload, 57, 0, 0, 0), (57, .invokevirtual 124, 60, 121, 2, 8), (60, .iload_n 1, 61, 0, 0, 0), (61, .if_icmp .ne 15, 64, 76, 0, 0), (64, .aload_n 0, 65, 0, 0, 0), (65, .aload_n 0, 66, 0, 0, 0), (66, .getfield 26, 69, 8, 10, 0), (69, .iload_n 1, 70, 0, 0, 0), (70, .iaload, 71, 0, 0, 0), (71, .bipush 99, 73, 0, 0, 0), (73, .invokevirtual 102, 76, 113, 3, 8), (76, .iinc 1 1, 79, 0, 0, 0), (79, .goto (-62), 82, 17, 0, 0), (82, .iconst 1, 83, 0, 0, 0), (83, .istore_n 1, 84, 0, 0, 0), (84, .iload_n 1, 85, 0, 0, 0), (85, .aload_n 0, 86, 0, 0, 0), (86, .getfield 74, 89, 8, 16, 0), (89, .if_icmp .ge 122, 92, 211, 0, 0), (92, .iload_n 1, 93, 0, 0, 0), (93, .istore_n 2, 94, 0, 0, 0), (94, .iload_n 2, 95, 0, 0, 0), (95, .ifCond .le 110, 98, 205, 0, 0), (98, .bipush 99, 100, 0, 0, 0), (100, .aload_n 0, 101, 0, 0, 0), (101, .getfield 35, 104, 8, 14, 0), (104, .iload_n 2, 105, 0, 0, 0), (105, .iaload, 106, 0, 0, 0), (106, .imul, 107, 0, 0, 0), (107, .aload_n 0, 108, 0, 0, 0), (108, .getfield 38, 111, 8, 15, 0), (111, .iload_n 2, 112, 0, 0, 0), (112, .iaload, 113, 0, 0, 0), (113, .iadd, 114, 0, 0, 0), (114, .bipush 99, 116, 0, 0, 0), (116, .aload_n 0, 117, 0, 0, 0), (117, .getfield 35, 120, 8, 14, 0), (120, .iload_n 2, 121, 0, 0, 0), (121, .iconst 1, 122, 0, 0, 0), (122, .isub, 123, 0, 0, 0), (123, .iaload, 124, 0, 0, 0), (124, .imul, 125, 0, 0, 0), (125, .aload_n 0, 126, 0, 0, 0), (126, .getfield 38, 129, 8, 15, 0), (129, .iload_n 2, 130, 0, 0, 0), (130, .iconst 1, 131, 0, 0, 0), (131, .isub, 132, 0, 0, 0), (132, .iaload, 133, 0, 0, 0), (133, .iadd, 134, 0, 0, 0), (134, .if_icmp .ge 71, 137, 205, 0, 0), (137, .aload_n 0, 138, 0, 0, 0), (138, .getfield 35, 141, 8, 14, 0), (141, .iload_n 2, 142, 0, 0, 0), (142, .iaload, 143, 0, 0, 0), (143, .istore_n 3, 144, 0, 0, 0), (144, .aload_n 0, 145, 0, 0, 0), (145, .getfield 38, 148, 8, 15, 0), (148, .iload_n 2, 149, 0, 0, 0), (149, .iaload, 150, 0, 0, 0), (150, .istore 4, 152, 0, 0, 0), (152, .aload_n 0, 153, 0, 0, 0), (153, .getfield 35, 156, 8, 14, 0), (156, .iload_n 2, 157, 0, 0, 0), (157, .aload_n 0, 158, 0, 0, 0), (158, .getfield 35, 161, 8, 14, 0), (161, .iload_n 2, 162, 0, 0, 0), (162, .iconst 1, 163, 0, 0, 0), (163, .isub, 164, 0, 0, 0), (164, .iaload, 165, 0, 0, 0), (165, .iastore, 166, 0, 0, 0), (166, .aload_n 0, 167, 0, 0, 0), (167, .getfield 38, 170, 8, 15, 0), (170, .iload_n 2, 171, 0, 0, 0), (171, .aload_n 0, 172, 0, 0, 0), (172, .getfield 38, 175, 8, 15, 0), (175, .iload_n 2, 176, 0, 0, 0), (176, .iconst 1, 177, 0, 0, 0), (177, .isub, 178, 0, 0, 0), (178, .iaload, 179, 0, 0, 0), (179, .iastore, 180, 0, 0, 0), (180, .aload_n 0, 181, 0, 0, 0), (181, .getfield 35, 184, 8, 14, 0), (184, .iload_n 2, 185, 0, 0, 0), (185, .iconst 1, 186, 0, 0, 0), (186, .isub, 187, 0, 0, 0), (187, .iload_n 3, 188, 0, 0, 0), (188, .iastore, 189, 0, 0, 0), (189, .aload_n 0, 190, 0, 0, 0), (190, .getfield 38, 193, 8, 15, 0), (193, .iload_n 2, 194, 0, 0, 0), (194, .iconst 1, 195, 0, 0, 0), (195, .isub, 196, 0, 0, 0), (196, .iload 4, 198, 0, 0, 0), (198, .iastore, 199, 0, 0, 0), (199, .iinc 2 (-1), 202, 0, 0, 0), (202, .goto (-108), 205, 94, 0, 0), (205, .iinc 1 1, 208, 0, 0, 0), (208, .goto (-124), 211, 84, 0, 0), (211, .iconst 1, 212, 0, 0, 0), (212, .ireturn, 213, 0, 0, 0)]
def k_M_lengthOf : List (Nat × mE) := [(0, .aload_n 0, 1, 0, 0, 0), (1, .getfield 38, 4, 8, 15, 0), (4, .iload_n 1, 5, 0, 0, 0), (5, .iaload, 6, 0, 0, 0), (6, .bipush 99, 8, 0, 0, 0), (8, .if_icmp .ne 14, 11, 22, 0, 0), (11, .aload_n 0, 12, 0, 0, 0), (12, .getfield 13, 15, 8, 3, 0), (15, .iconst 0, 16, 0, 0, 0), (16, .iaload, 17, 0, 0, 0), (17, .iconst 1, 18, 0, 0, 0), (18, .iadd, 19, 0, 0, 0), (19, .goto 9, 22, 28, 0, 0), (22, .aload_n 0, 23, 0, 0, 0), (23, .getfield 38, 26, 8, 15, 0), (26, .iload_n 1, 27, 0, 0, 0), (27, .iaload, 28, 0, 0, 0), (28, .aload_n 0, 29, 0, 0, 0), (29, .getfield 35, 32, 8, 14, 0), (32, .iload_n 1, 33, 0, 0, 0), (33, .iaload, 34, 0, 0, 0), (34, .isub, 35, 0, 0, 0), (35, .ireturn, 36, 0, 0, 0)]
def k_M_bits : List (Nat × mE) := [(0, .iconst 0, 1, 0, 0, 0), (1, .istore_n 1, 2, 0, 0, 0), (2, .iconst 0, 3, 0, 0, 0), (3, .istore_n 2, 4, 0, 0, 0), (4, .iload_n 2, 5, 0, 0, 0), (5, .bipush 9, 7, 0, 0, 0), (7, .if_icmp .ge 17, 10, 24, 0, 0), (10, .iload_n 1, 11, 0, 0, 0), (11, .iload_n 0, 12, 0, 0, 0), (12, .iload_n 2, 13, 0, 0, 0), (13, .ishr, 14, 0, 0, 0), (14, .iconst 1, 15, 0, 0, 0), (15, .iand, 16, 0, 0, 0), (16, .iadd, 17, 0, 0, 0), (17, .istore_n 1, 18, 0, 0, 0), (18, .iinc 2 1, 21, 0, 0, 0), (21, .goto (-17), 24, 4, 0, 0), (24, .iload_n 1, 25, 0, 0, 0), (25, .ireturn, 26, 0, 0, 0)]
def k_M_edges : List (Nat × mE) := [(0, .iconst 0, 1, 0, 0, 0), (1, .istore_n 1, 2, 0, 0, 0), (2, .iconst 0, 3, 0, 0, 0), (3, .istore_n 2, 4, 0, 0, 0), (4, .iload_n 2, 5, 0, 0, 0), (5, .bipush 9, 7, 0, 0, 0), (7, .if_icmp .ge 21, 10, 28, 0, 0), (10, .iload_n 1, 11, 0, 0, 0), (11, .aload_n 0, 12, 0, 0, 0), (12, .getfield 23, 15, 8, 9, 0), (15, .iload_n 2, 16, 0, 0, 0), (16, .iaload, 17, 0, 0, 0), (17, .invokestatic 127, 20, 124, 1, 0), (20, .iadd, 21, 0, 0, 0), (21, .istore_n 1, 22, 0, 0, 0), (22, .iinc 2 1, 25, 0, 0, 0), (25, .goto (-21), 28, 4, 0, 0), (28, .iload_n 1, 29, 0, 0, 0), (29, .iconst 2, 30, 0, 0, 0), (30, .idiv, 31, 0, 0, 0), (31, .ireturn, 32, 0, 0, 0)]
def k_M_write : List (Nat × mE) := [(0, .aload_n 0, 1, 0, 0, 0), (1, .iconst 0, 2, 0, 0, 0), (2, .putfield 50, 5, 8, 0, 0), (5, .iload_n 1, 6, 0, 0, 0), (6, .bipush 32, 8, 0, 0, 0), (8, .bipush 126, 10, 0, 0, 0), (10, .invokestatic 130, 13, 101, 3, 0), (13, .ifCond .ne 5, 16, 18, 0, 0), (16, .iconst (-1), 17, 0, 0, 0), (17, .ireturn, 18, 0, 0, 0), (18, .aload_n 0, 19, 0, 0, 0), (19, .getfield 134, 22, 8, 2, 0), (22, .sipush 200, 25, 0, 0, 0), (25, .if_icmp .ne 6, 28, 31, 0, 0), (28, .bipush (-3), 30, 0, 0, 0), (30, .ireturn, 31, 0, 0, 0), (31, .aload_n 0, 32, 0, 0, 0), (32, .getfield 7, 35, 8, 1, 0), (35, .aload_n 0, 36, 0, 0, 0), (36, .getfield 134, 39, 8, 2, 0), (39, .iload_n 1, 40, 0, 0, 0), (40, .i2b, 41, 0, 0, 0), (41, .bastore, 42, 0, 0, 0), (42, .aload_n 0, 43, 0, 0, 0), (43, .dup, 44, 0, 0, 0), (44, .getfield 134, 47, 8, 2, 0), (47, .iconst 1, 48, 0, 0, 0), (48, .iadd, 49, 0, 0, 0), (49, .putfield 134, 52, 8, 2, 0), (52, .aload_n 0, 53, 0, 0, 0), (53, .getfield 134, 56, 8, 2, 0), (56, .ireturn, 57, 0, 0, 0)]
def k_M_wipe : List (Nat × mE) := [(0, .aload_n 0, 1, 0, 0, 0), (1, .iconst 0, 2, 0, 0, 0), (2, .putfield 50, 5, 8, 0, 0), (5, .aload_n 0, 6, 0, 0, 0), (6, .getfield 134, 9, 8, 2, 0), (9, .istore_n 1, 10, 0, 0, 0), (10, .aload_n 0, 11, 0, 0, 0), (11, .iconst 0, 12, 0, 0, 0), (12, .putfield 134, 15, 8, 2, 0), (15, .iload_n 1, 16, 0, 0, 0), (16, .ireturn, 17, 0, 0, 0)]
def k_M_figureAt : List (Nat × mE) := [(0, .iload_n 1, 1, 0, 0, 0), (1, .aload_n 0, 2, 0, 0, 0), (2, .getfield 134, 5, 8, 2, 0), (5, .if_icmp .ge 31, 8, 36, 0, 0), (8, .aload_n 0, 9, 0, 0, 0), (9, .getfield 7, 12, 8, 1, 0), (12, .iload_n 1, 13, 0, 0, 0), (13, .baload, 14, 0, 0, 0), (14, .bipush 48, 16, 0, 0, 0), (16, .bipush 56, 18, 0, 0, 0), (18, .invokestatic 130, 21, 101, 3, 0), (21, .ifCond .eq 15, 24, 36, 0, 0), (24, .aload_n 0, 25, 0, 0, 0), (25, .getfield 7, 28, 8, 1, 0), (28, .iload_n 1, 29, 0, 0, 0), (29, .baload, 30, 0, 0, 0), (30, .bipush 48, 32, 0, 0, 0), (32, .isub, 33, 0, 0, 0), (33, .goto 5, 36, 38, 0, 0), (36, .bipush (-4), 38, 0, 0, 0), (38, .ireturn, 39, 0, 0, 0)]
def k_M_item : List (Nat × mE) := [(0, .aload_n 0, 1, 0, 0, 0), (1, .getfield 7, 4, 8, 1, 0), (4, .aload_n 0, 5, 0, 0, 0), (5, .getfield 137, 8, 8, 18, 0), (8, .baload, 9, 0, 0, 0), (9, .istore_n 1, 10, 0, 0, 0), (10, .iload_n 1, 11, 0, 0, 0), (11, .bipush 118, 13, 0, 0, 0), (13, .if_icmp .ne 7, 16, 20, 0, 0), (16, .iconst 0, 17, 0, 0, 0), (17, .goto 35, 20, 52, 0, 0), (20, .iload_n 1, 21, 0, 0, 0), (21, .bipush 119, 23, 0, 0, 0), (23, .if_icmp .ne 7, 26, 30, 0, 0), (26, .iconst 1, 27, 0, 0, 0), (27, .goto 25, 30, 52, 0, 0), (30, .iload_n 1, 31, 0, 0, 0), (31, .bipush 101, 33, 0, 0, 0), (33, .if_icmp .ne 7, 36, 40, 0, 0), (36, .iconst 2, 37, 0, 0, 0), (37, .goto 15, 40, 52, 0, 0), (40, .iload_n 1, 41, 0, 0, 0), (41, .bipush 102, 43, 0, 0, 0), (43, .if_icmp .ne 7, 46, 50, 0, 0), (46, .iconst 3, 47, 0, 0, 0), (47, .goto 5, 50, 52, 0, 0), (50, .bipush (-4), 52, 0, 0, 0), (52, .istore_n 2, 53, 0, 0, 0), (53, .iload_n 2, 54, 0, 0, 0), (54, .bipush (-4), 56, 0, 0, 0), (56, .if_icmp .ne 6, 59, 62, 0, 0), (59, .bipush (-4), 61, 0, 0, 0), (61, .ireturn, 62, 0, 0, 0), (62, .aload_n 0, 63, 0, 0, 0), (63, .aload_n 0, 64, 0, 0, 0), (64, .getfield 137, 67, 8, 18, 0), (67, .iconst 1, 68, 0, 0, 0), (68, .iadd, 69, 0, 0, 0), (69, .invokevirtual 140, 72, 128, 2, 8), (72, .istore_n 3, 73, 0, 0, 0), (73, .iload_n 2, 74, 0, 0, 0), (74, .iconst 2, 75, 0, 0, 0), (75, .if_icmp .ge 7, 78, 82, 0, 0), (78, .iconst 0, 79, 0, 0, 0), (79, .goto 13, 82, 92, 0, 0), (82, .aload_n 0, 83, 0, 0, 0), (83, .aload_n 0, 84, 0, 0, 0), (84, .getfield 137, 87, 8, 18, 0), (87, .iconst 2, 88, 0, 0, 0), (88, .iadd, 89, 0, 0, 0), (89, .invokevirtual 140, 92, 128, 2, 8), (92, .istore 4, 94, 0, 0, 0), (94, .aload_n 0, 95, 0, 0, 0), (95, .getfield 137, 98, 8, 18, 0), (98, .iload_n 2, 99, 0, 0, 0), (99, .iconst 2, 100, 0, 0, 0), (100, .if_icmp .ge 7, 103, 107, 0, 0), (103, .iconst 2, 104, 0, 0, 0), (104, .goto 4, 107, 108, 0, 0), (107, .iconst 3, 108, 0, 0, 0), (108, .iadd, 109, 0, 0, 0), (109, .istore 5, 111, 0, 0, 0), (111, .iload_n 3, 112, 0, 0, 0), (112, .bipush (-4), 114, 0, 0, 0), (114, .if_icmp .eq 31, 117, 145, 0, 0), (117, .iload 4, 119, 0, 0, 0), (119, .bipush (-4), 121, 0, 0, 0), (121, .if_icmp .eq 24, 124, 145, 0, 0), (124, .iload 5, 126, 0, 0, 0), (126, .aload_n 0, 127, 0, 0, 0), (127, .getfield 134, 130, 8, 2, 0), (130, .if_icmp .ge 15, 133, 145, 0, 0), (133, .aload_n 0, 134, 0, 0, 0), (134, .getfield 7, 137, 8, 1, 0), (137, .iload 5, 139, 0, 0, 0), (139, .baload, 140, 0, 0, 0), (140, .bipush 59, 142, 0, 0, 0), (142, .if_icmp .eq 6, 145, 148, 0, 0), (145, .bipush (-4), 147, 0, 0, 0), (147, .ireturn, 148, 0, 0, 0), (148, .aload_n 0, 149, 0, 0, 0), (149, .iload 5, 151, 0, 0, 0), (151, .iconst 1, 152, 0, 0, 0), (152, .iadd, 153, 0, 0, 0), (153, .putfield 137, 156, 8, 18, 0), (156, .iload_n 2, 157, 0, 0, 0), (157, .iload_n 3, 158, 0, 0, 0), (158, .iload 4, 160, 0, 0, 0), (160, .invokestatic 143, 163, 102, 3, 0), (163, .ireturn, 164, 0, 0, 0)]
def k_M_reads : List (Nat × mE) := [(0, .aload_n 0, 1, 0, 0, 0), (1, .invokevirtual 111, 4, 119, 1, 8), (4, .aload_n 0, 5, 0, 0, 0), (5, .getfield 41, 8, 8, 17, 0), (8, .iconst 0, 9, 0, 0, 0), (9, .iconst 0, 10, 0, 0, 0), (10, .iastore, 11, 0, 0, 0), (11, .aload_n 0, 12, 0, 0, 0), (12, .iconst 0, 13, 0, 0, 0), (13, .putfield 137, 16, 8, 18, 0), (16, .aload_n 0, 17, 0, 0, 0), (17, .getfield 137, 20, 8, 18, 0), (20, .aload_n 0, 21, 0, 0, 0), (21, .getfield 134, 24, 8, 2, 0), (24, .if_icmp .ge 76, 27, 100, 0, 0), (27, .aload_n 0, 28, 0, 0, 0), (28, .getfield 137, 31, 8, 18, 0), (31, .istore_n 1, 32, 0, 0, 0), (32, .aload_n 0, 33, 0, 0, 0), (33, .invokevirtual 147, 36, 129, 1, 8), (36, .istore_n 2, 37, 0, 0, 0), (37, .iload_n 2, 38, 0, 0, 0), (38, .bipush (-4), 40, 0, 0, 0), (40, .if_icmp .eq 22, 43, 62, 0, 0), (43, .aload_n 0, 44, 0, 0, 0), (44, .getfield 41, 47, 8, 17, 0), (47, .iconst 0, 48, 0, 0, 0), (48, .iaload, 49, 0, 0, 0), (49, .bipush 40, 51, 0, 0, 0), (51, .if_icmp .eq 11, 54, 62, 0, 0), (54, .aload_n 0, 55, 0, 0, 0), (55, .iload_n 2, 56, 0, 0, 0), (56, .invokevirtual 114, 59, 107, 2, 8), (59, .ifCond .ne 5, 62, 64, 0, 0), (62, .iload_n 1, 63, 0, 0, 0), (63, .ireturn, 64, 0, 0, 0), (64, .aload_n 0, 65, 0, 0, 0), (65, .getfield 41, 68, 8, 17, 0), (68, .iconst 0, 69, 0, 0, 0), (69, .dup2, 70, 0, 0, 0), (70, .iaload, 71, 0, 0, 0), (71, .iconst 1, 72, 0, 0, 0), (72, .iadd, 73, 0, 0, 0), (73, .iastore, 74, 0, 0, 0), (74, .aload_n 0, 75, 0, 0, 0), (75, .getfield 41, 78, 8, 17, 0), (78, .aload_n 0, 79, 0, 0, 0), (79, .getfield 41, 82, 8, 17, 0), (82, .iconst 0, 83, 0, 0, 0), (83, .iaload, 84, 0, 0, 0), (84, .iload_n 2, 85, 0, 0, 0), (85, .iastore, 86, 0, 0, 0), (86, .aload_n 0, 87, 0, 0, 0), (87, .iload_n 2, 88, 0, 0, 0), (88, .aload_n 0, 89, 0, 0, 0), (89, .getfield 41, 92, 8, 17, 0), (92, .iconst 0, 93, 0, 0, 0), (93, .iaload, 94, 0, 0, 0), (94, .invokevirtual 118, 97, 118, 3, 8), (97, .goto (-81), 100, 16, 0, 0), (100, .bipush (-4), 102, 0, 0, 0), (102, .ireturn, 103, 0, 0, 0)]
def k_M_fault : List (Nat × mE) := [(0, .aload_n 0, 1, 0, 0, 0), (1, .iconst 0, 2, 0, 0, 0), (2, .putfield 50, 5, 8, 0, 0), (5, .aload_n 0, 6, 0, 0, 0), (6, .invokevirtual 150, 9, 130, 1, 8), (9, .ireturn, 10, 0, 0, 0)]
def k_M_lay : List (Nat × mE) := [(0, .aload_n 0, 1, 0, 0, 0), (1, .iconst 0, 2, 0, 0, 0), (2, .putfield 50, 5, 8, 0, 0), (5, .aload_n 0, 6, 0, 0, 0), (6, .invokevirtual 150, 9, 130, 1, 8), (9, .bipush (-4), 11, 0, 0, 0), (11, .if_icmp .eq 6, 14, 17, 0, 0), (14, .bipush (-2), 16, 0, 0, 0), (16, .ireturn, 17, 0, 0, 0), (17, .iconst 0, 18, 0, 0, 0), (18, .istore_n 1, 19, 0, 0, 0), (19, .iload_n 1, 20, 0, 0, 0), (20, .bipush 41, 22, 0, 0, 0), (22, .if_icmp .ge 21, 25, 43, 0, 0), (25, .aload_n 0, 26, 0, 0, 0), (26, .getfield 13, 29, 8, 3, 0), (29, .iload_n 1, 30, 0, 0, 0), (30, .aload_n 0, 31, 0, 0, 0), (31, .getfield 41, 34, 8, 17, 0), (34, .iload_n 1, 35, 0, 0, 0), (35, .iaload, 36, 0, 0, 0), (36, .iastore, 37, 0, 0, 0), (37, .iinc 1 1, 40, 0, 0, 0), (40, .goto (-21), 43, 19, 0, 0), (43, .aload_n 0, 44, 0, 0, 0), (44, .iconst 0, 45, 0, 0, 0), (45, .putfield 153, 48, 8, 5, 0), (48, .aload_n 0, 49, 0, 0, 0), (49, .getfield 13, 52, 8, 3, 0), (52, .iconst 0, 53, 0, 0, 0), (53, .iaload, 54, 0, 0, 0), (54, .ireturn, 55, 0, 0, 0)]
def k_M_notes : List (Nat × mE) := [(0, .aload_n 0, 1, 0, 0, 0), (1, .getfield 153, 4, 8, 5, 0), (4, .bipush 6, 6, 0, 0, 0), (6, .if_icmp .ne 43, 9, 49, 0, 0), (9, .iconst 0, 10, 0, 0, 0), (10, .istore_n 1, 11, 0, 0, 0), (11, .iload_n 1, 12, 0, 0, 0), (12, .sipush 205, 15, 0, 0, 0), (15, .if_icmp .ge 24, 18, 39, 0, 0), (18, .aload_n 0, 19, 0, 0, 0), (19, .getfield 17, 22, 8, 4, 0), (22, .iload_n 1, 23, 0, 0, 0), (23, .aload_n 0, 24, 0, 0, 0), (24, .getfield 17, 27, 8, 4, 0), (27, .iload_n 1, 28, 0, 0, 0), (28, .bipush 41, 30, 0, 0, 0), (30, .iadd, 31, 0, 0, 0), (31, .iaload, 32, 0, 0, 0), (32, .iastore, 33, 0, 0, 0), (33, .iinc 1 1, 36, 0, 0, 0), (36, .goto (-25), 39, 11, 0, 0), (39, .aload_n 0, 40, 0, 0, 0), (40, .dup, 41, 0, 0, 0), (41, .getfield 153, 44, 8, 5, 0), (44, .iconst 1, 45, 0, 0, 0), (45, .isub, 46, 0, 0, 0), (46, .putfield 153, 49, 8, 5, 0), (49, .iconst 0, 50, 0, 0, 0), (50, .istore_n 1, 51, 0, 0, 0), (51, .iload_n 1, 52, 0, 0, 0), (52, .bipush 41, 54, 0, 0, 0), (54, .if_icmp .ge 29, 57, 83, 0, 0), (57, .aload_n 0, 58, 0, 0, 0), (58, .getfield 17, 61, 8, 4, 0), (61, .bipush 41, 63, 0, 0, 0), (63, .aload_n 0, 64, 0, 0, 0), (64, .getfield 153, 67, 8, 5, 0), (67, .imul, 68, 0, 0, 0), (68, .iload_n 1, 69, 0, 0, 0), (69, .iadd, 70, 0, 0, 0), (70, .aload_n 0, 71, 0, 0, 0), (71, .getfield 13, 74, 8, 3, 0), (74, .iload_n 1, 75, 0, 0, 0), (75, .iaload, 76, 0, 0, 0), (76, .iastore, 77, 0, 0, 0), (77, .iinc 1 1, 80, 0, 0, 0), (80, .goto (-29), 83, 51, 0, 0), (83, .aload_n 0, 84, 0, 0, 0), (84, .dup, 85, 0, 0, 0), (85, .getfield 153, 88, 8, 5, 0), (88, .iconst 1, 89, 0, 0, 0), (89, .iadd, 90, 0, 0, 0), (90, .putfield 153, 93, 8, 5, 0), (93, .return_, 94, 0, 0, 0)]
def k_M_act : List (Nat × mE) := [(0, .aload_n 0, 1, 0, 0, 0), (1, .iconst 0, 2, 0, 0, 0), (2, .putfield 50, 5, 8, 0, 0), (5, .iload_n 1, 6, 0, 0, 0), (6, .iconst 0, 7, 0, 0, 0), (7, .iconst 3, 8, 0, 0, 0), (8, .invokestatic 130, 11, 101, 3, 0), (11, .ifCond .eq 33, 14, 44, 0, 0), (14, .iload_n 2, 15, 0, 0, 0), (15, .iconst 0, 16, 0, 0, 0), (16, .bipush 8, 18, 0, 0, 0), (18, .invokestatic 130, 21, 101, 3, 0), (21, .ifCond .eq 23, 24, 44, 0, 0), (24, .iload_n 3, 25, 0, 0, 0), (25, .iconst 0, 26, 0, 0, 0), (26, .bipush 8, 28, 0, 0, 0), (28, .invokestatic 130, 31, 101, 3, 0), (31, .ifCond .eq 13, 34, 44, 0, 0), (34, .iload_n 1, 35, 0, 0, 0), (35, .iconst 1, 36, 0, 0, 0), (36, .if_icmp .le 10, 39, 46, 0, 0), (39, .iload_n 2, 40, 0, 0, 0), (40, .iload_n 3, 41, 0, 0, 0), (41, .if_icmp .ne 5, 44, 46, 0, 0), (44, .iconst (-1), 45, 0, 0, 0), (45, .ireturn, 46, 0, 0, 0), (46, .aload_n 0, 47, 0, 0, 0), (47, .aload_n 0, 48, 0, 0, 0), (48, .getfield 13, 51, 8, 3, 0), (51, .iconst 0, 52, 0, 0, 0), (52, .iaload, 53, 0, 0, 0), (53, .invokevirtual 121, 56, 120, 2, 8), (56, .pop, 57, 0, 0, 0), (57, .iload_n 1, 58, 0, 0, 0), (58, .iload_n 2, 59, 0, 0, 0), (59, .iload_n 3, 60, 0, 0, 0), (60, .invokestatic 143, 63, 102, 3, 0), (63, .istore 4, 65, 0, 0, 0), (65, .aload_n 0, 66, 0, 0, 0), (66, .iload 4, 68, 0, 0, 0), (68, .invokevirtual 114, 71, 107, 2, 8), (71, .ifCond .ne 6, 74, 77, 0, 0), (74, .bipush (-2), 76, 0, 0, 0), (76, .ireturn, 77, 0, 0, 0), (77, .aload_n 0, 78, 0, 0, 0), (78, .getfield 13, 81, 8, 3, 0), (81, .iconst 0, 82, 0, 0, 0), (82, .iaload, 83, 0, 0, 0), (83, .bipush 40, 85, 0, 0, 0), (85, .if_icmp .ne 6, 88, 91, 0, 0), (88, .bipush (-3), 90, 0, 0, 0), (90, .ireturn, 91, 0, 0, 0), (91, .aload_n 0, 92, 0, 0, 0), (92, .invokevirtual 156, 95, 133, 1, 8), (95, .aload_n 0, 96, 0, 0, 0), (96, .getfield 13, 99, 8, 3, 0), (99, .iconst 0, 100, 0, 0, 0), (100, .dup2, 101, 0, 0, 0), (101, .iaload, 102, 0, 0, 0), (102, .iconst 1, 103, 0, 0, 0), (103, .iadd, 104, 0, 0, 0), (104, .iastore, 105, 0, 0, 0), (105, .aload_n 0, 106, 0, 0, 0), (106, .getfield 13, 109, 8, 3, 0), (109, .aload_n 0, 110, 0, 0, 0), (110, .getfield 13, 113, 8, 3, 0), (113, .iconst 0, 114, 0, 0, 0), (114, .iaload, 115, 0, 0, 0), (115, .iload 4, 117, 0, 0, 0), (117, .iastore, 118, 0, 0, 0), (118, .aload_n 0, 119, 0, 0, 0), (119, .getfield 13, 122, 8, 3, 0), (122, .iconst 0, 123, 0, 0, 0), (123, .iaload, 124, 0, 0, 0), (124, .ireturn, 125, 0, 0, 0)]
def k_M_drop : List (Nat × mE) := [(0, .aload_n 0, 1, 0, 0, 0), (1, .iconst 0, 2, 0, 0, 0), (2, .putfield 50, 5, 8, 0, 0), (5, .aload_n 0, 6, 0, 0, 0), (6, .getfield 13, 9, 8, 3, 0), (9, .iconst 0, 10, 0, 0, 0), (10, .iaload, 11, 0, 0, 0), (11, .ifCond .ne 6, 14, 17, 0, 0), (14, .bipush (-2), 16, 0, 0, 0), (16, .ireturn, 17, 0, 0, 0), (17, .aload_n 0, 18, 0, 0, 0), (18, .invokevirtual 156, 21, 133, 1, 8), (21, .aload_n 0, 22, 0, 0, 0), (22, .getfield 13, 25, 8, 3, 0), (25, .iconst 0, 26, 0, 0, 0), (26, .dup2, 27, 0, 0, 0), (27, .iaload, 28, 0, 0, 0), (28, .iconst 1, 29, 0, 0, 0), (29, .isub, 30, 0, 0, 0), (30, .iastore, 31, 0, 0, 0), (31, .aload_n 0, 32, 0, 0, 0), (32, .getfield 13, 35, 8, 3, 0), (35, .iconst 0, 36, 0, 0, 0), (36, .iaload, 37, 0, 0, 0), (37, .ireturn, 38, 0, 0, 0)]
def k_M_sets : List (Nat × mE) := [(0, .aload_n 0, 1, 0, 0, 0), (1, .aload_n 0, 2, 0, 0, 0), (2, .getfield 74, 5, 8, 16, 0), (5, .putfield 159, 8, 8, 21, 0), (8, .iconst 0, 9, 0, 0, 0), (9, .istore_n 1, 10, 0, 0, 0), (10, .iload_n 1, 11, 0, 0, 0), (11, .aload_n 0, 12, 0, 0, 0), (12, .getfield 74, 15, 8, 16, 0), (15, .if_icmp .ge 33, 18, 48, 0, 0), (18, .aload_n 0, 19, 0, 0, 0), (19, .getfield 44, 22, 8, 19, 0), (22, .iload_n 1, 23, 0, 0, 0), (23, .aload_n 0, 24, 0, 0, 0), (24, .getfield 35, 27, 8, 14, 0), (27, .iload_n 1, 28, 0, 0, 0), (28, .iaload, 29, 0, 0, 0), (29, .iastore, 30, 0, 0, 0), (30, .aload_n 0, 31, 0, 0, 0), (31, .getfield 47, 34, 8, 20, 0), (34, .iload_n 1, 35, 0, 0, 0), (35, .aload_n 0, 36, 0, 0, 0), (36, .getfield 38, 39, 8, 15, 0), (39, .iload_n 1, 40, 0, 0, 0), (40, .iaload, 41, 0, 0, 0), (41, .iastore, 42, 0, 0, 0), (42, .iinc 1 1, 45, 0, 0, 0), (45, .goto (-35), 48, 10, 0, 0), (48, .return_, 49, 0, 0, 0)]
def k_M_others : List (Nat × mE) := [(0, .iconst 0, 1, 0, 0, 0), (1, .istore_n 1, 2, 0, 0, 0), (2, .iconst 0, 3, 0, 0, 0), (3, .istore_n 2, 4, 0, 0, 0), (4, .iconst 0, 5, 0, 0, 0), (5, .istore_n 3, 6, 0, 0, 0), (6, .iload_n 3, 7, 0, 0, 0), (7, .aload_n 0, 8, 0, 0, 0), (8, .getfield 159, 11, 8, 21, 0), (11, .if_icmp .ge 100, 14, 111, 0, 0), (14, .bipush 99, 16, 0, 0, 0), (16, .aload_n 0, 17, 0, 0, 0), (17, .getfield 44, 20, 8, 19, 0), (20, .iload_n 3, 21, 0, 0, 0), (21, .iaload, 22, 0, 0, 0), (22, .imul, 23, 0, 0, 0), (23, .aload_n 0, 24, 0, 0, 0), (24, .getfield 47, 27, 8, 20, 0), (27, .iload_n 3, 28, 0, 0, 0), (28, .iaload, 29, 0, 0, 0), (29, .iadd, 30, 0, 0, 0), (30, .istore 4, 32, 0, 0, 0), (32, .iload_n 2, 33, 0, 0, 0), (33, .aload_n 0, 34, 0, 0, 0), (34, .getfield 74, 37, 8, 16, 0), (37, .if_icmp .ge 30, 40, 67, 0, 0), (40, .bipush 99, 42, 0, 0, 0), (42, .aload_n 0, 43, 0, 0, 0), (43, .getfield 35, 46, 8, 14, 0), (46, .iload_n 2, 47, 0, 0, 0), (47, .iaload, 48, 0, 0, 0), (48, .imul, 49, 0, 0, 0), (49, .aload_n 0, 50, 0, 0, 0), (50, .getfield 38, 53, 8, 15, 0), (53, .iload_n 2, 54, 0, 0, 0), (54, .iaload, 55, 0, 0, 0), (55, .iadd, 56, 0, 0, 0), (56, .iload 4, 58, 0, 0, 0), (58, .if_icmp .ge 9, 61, 67, 0, 0), (61, .iinc 2 1, 64, 0, 0, 0), (64, .goto (-32), 67, 32, 0, 0), (67, .iload_n 2, 68, 0, 0, 0), (68, .aload_n 0, 69, 0, 0, 0), (69, .getfield 74, 72, 8, 16, 0), (72, .if_icmp .ge 30, 75, 102, 0, 0), (75, .bipush 99, 77, 0, 0, 0), (77, .aload_n 0, 78, 0, 0, 0), (78, .getfield 35, 81, 8, 14, 0), (81, .iload_n 2, 82, 0, 0, 0), (82, .iaload, 83, 0, 0, 0), (83, .imul, 84, 0, 0, 0), (84, .aload_n 0, 85, 0, 0, 0), (85, .getfield 38, 88, 8, 15, 0), (88, .iload_n 2, 89, 0, 0, 0), (89, .iaload, 90, 0, 0, 0), (90, .iadd, 91, 0, 0, 0), (91, .iload 4, 93, 0, 0, 0), (93, .if_icmp .ne 9, 96, 102, 0, 0), (96, .iinc 2 1, 99, 0, 0, 0), (99, .goto 6, 102, 105, 0, 0), (102, .iinc 1 1, 105, 0, 0, 0), (105, .iinc 3 1, 108, 0, 0, 0), (108, .goto (-102), 111, 6, 0, 0), (111, .iload_n 1, 112, 0, 0, 0), (112, .ireturn, 113, 0, 0, 0)]
def k_M_swaps : List (Nat × mE) := [(0, .aload_n 0, 1, 0, 0, 0), (1, .getfield 13, 4, 8, 3, 0), (4, .iload_n 1, 5, 0, 0, 0), (5, .iaload, 6, 0, 0, 0), (6, .istore_n 2, 7, 0, 0, 0), (7, .aload_n 0, 8, 0, 0, 0), (8, .getfield 13, 11, 8, 3, 0), (11, .iload_n 1, 12, 0, 0, 0), (12, .aload_n 0, 13, 0, 0, 0), (13, .getfield 13, 16, 8, 3, 0), (16, .iload_n 1, 17, 0, 0, 0), (17, .iconst 1, 18, 0, 0, 0), (18, .iadd, 19, 0, 0, 0), (19, .iaload, 20, 0, 0, 0), (20, .iastore, 21, 0, 0, 0), (21, .aload_n 0, 22, 0, 0, 0), (22, .getfield 13, 25, 8, 3, 0), (25, .iload_n 1, 26, 0, 0, 0), (26, .iconst 1, 27, 0, 0, 0), (27, .iadd, 28, 0, 0, 0), (28, .iload_n 2, 29, 0, 0, 0), (29, .iastore, 30, 0, 0, 0), (30, .return_, 31, 0, 0, 0)]
def k_M_exchange : List (Nat × mE) := [(0, .aload_n 0, 1, 0, 0, 0), (1, .iconst 0, 2, 0, 0, 0), (2, .putfield 50, 5, 8, 0, 0), (5, .iload_n 1, 6, 0, 0, 0), (6, .iconst 1, 7, 0, 0, 0), (7, .aload_n 0, 8, 0, 0, 0), (8, .getfield 13, 11, 8, 3, 0), (11, .iconst 0, 12, 0, 0, 0), (12, .iaload, 13, 0, 0, 0), (13, .iconst 1, 14, 0, 0, 0), (14, .isub, 15, 0, 0, 0), (15, .invokestatic 130, 18, 101, 3, 0), (18, .ifCond .ne 5, 21, 23, 0, 0), (21, .iconst (-1), 22, 0, 0, 0), (22, .ireturn, 23, 0, 0, 0), (23, .aload_n 0, 24, 0, 0, 0), (24, .invokevirtual 162, 27, 122, 1, 8), (27, .pop, 28, 0, 0, 0), (28, .aload_n 0, 29, 0, 0, 0), (29, .invokevirtual 166, 32, 136, 1, 8), (32, .aload_n 0, 33, 0, 0, 0), (33, .iload_n 1, 34, 0, 0, 0), (34, .invokevirtual 169, 37, 138, 2, 8), (37, .aload_n 0, 38, 0, 0, 0), (38, .invokevirtual 162, 41, 122, 1, 8), (41, .istore_n 2, 42, 0, 0, 0), (42, .aload_n 0, 43, 0, 0, 0), (43, .iload_n 1, 44, 0, 0, 0), (44, .invokevirtual 169, 47, 138, 2, 8), (47, .iload_n 2, 48, 0, 0, 0), (48, .ifCond .ne 6, 51, 54, 0, 0), (51, .bipush (-2), 53, 0, 0, 0), (53, .ireturn, 54, 0, 0, 0), (54, .aload_n 0, 55, 0, 0, 0), (55, .invokevirtual 156, 58, 133, 1, 8), (58, .aload_n 0, 59, 0, 0, 0), (59, .iload_n 1, 60, 0, 0, 0), (60, .invokevirtual 169, 63, 138, 2, 8), (63, .aload_n 0, 64, 0, 0, 0), (64, .invokevirtual 173, 67, 137, 1, 8), (67, .ireturn, 68, 0, 0, 0)]
def k_M_backwards : List (Nat × mE) := [(0, .aload_n 0, 1, 0, 0, 0), (1, .iconst 0, 2, 0, 0, 0), (2, .putfield 50, 5, 8, 0, 0), (5, .aload_n 0, 6, 0, 0, 0), (6, .aload_n 0, 7, 0, 0, 0), (7, .getfield 13, 10, 8, 3, 0), (10, .iconst 0, 11, 0, 0, 0), (11, .iaload, 12, 0, 0, 0), (12, .invokevirtual 121, 15, 120, 2, 8), (15, .pop, 16, 0, 0, 0), (16, .aload_n 0, 17, 0, 0, 0), (17, .getfield 64, 20, 8, 8, 0), (20, .ifCond .eq 6, 23, 26, 0, 0), (23, .bipush (-2), 25, 0, 0, 0), (25, .ireturn, 26, 0, 0, 0), (26, .aload_n 0, 27, 0, 0, 0), (27, .invokevirtual 156, 30, 133, 1, 8), (30, .iconst 1, 31, 0, 0, 0), (31, .istore_n 1, 32, 0, 0, 0), (32, .iload_n 1, 33, 0, 0, 0), (33, .aload_n 0, 34, 0, 0, 0), (34, .getfield 13, 37, 8, 3, 0), (37, .iconst 0, 38, 0, 0, 0), (38, .iaload, 39, 0, 0, 0), (39, .if_icmp .gt 21, 42, 60, 0, 0), (42, .aload_n 0, 43, 0, 0, 0), (43, .getfield 41, 46, 8, 17, 0), (46, .iload_n 1, 47, 0, 0, 0), (47, .aload_n 0, 48, 0, 0, 0), (48, .getfield 13, 51, 8, 3, 0), (51, .iload_n 1, 52, 0, 0, 0), (52, .iaload, 53, 0, 0, 0), (53, .iastore, 54, 0, 0, 0), (54, .iinc 1 1, 57, 0, 0, 0), (57, .goto (-25), 60, 32, 0, 0), (60, .iconst 1, 61, 0, 0, 0), (61, .istore_n 1, 62, 0, 0, 0), (62, .iload_n 1, 63, 0, 0, 0), (63, .aload_n 0, 64, 0, 0, 0), (64, .getfield 13, 67, 8, 3, 0), (67, .iconst 0, 68, 0, 0, 0), (68, .iaload, 69, 0, 0, 0), (69, .if_icmp .gt 61, 72, 130, 0, 0), (72, .aload_n 0, 73, 0, 0, 0), (73, .getfield 41, 76, 8, 17, 0), (76, .aload_n 0, 77, 0, 0, 0), (77, .getfield 13, 80, 8, 3, 0), (80, .iconst 0, 81, 0, 0, 0), (81, .iaload, 82, 0, 0, 0), (82, .iconst 1, 83, 0, 0, 0), (83, .iadd, 84, 0, 0, 0), (84, .iload_n 1, 85, 0, 0, 0), (85, .isub, 86, 0, 0, 0), (86, .iaload, 87, 0, 0, 0), (87, .istore_n 2, 88, 0, 0, 0), (88, .iload_n 2, 89, 0, 0, 0), (89, .invokestatic 61, 92, 103, 1, 0), (92, .istore_n 3, 93, 0, 0, 0), (93, .aload_n 0, 94, 0, 0, 0), (94, .getfield 13, 97, 8, 3, 0), (97, .iload_n 1, 98, 0, 0, 0), (98, .iload_n 3, 99, 0, 0, 0), (99, .iconst 2, 100, 0, 0, 0), (100, .if_icmp .ge 9, 103, 109, 0, 0), (103, .iconst 1, 104, 0, 0, 0), (104, .iload_n 3, 105, 0, 0, 0), (105, .isub, 106, 0, 0, 0), (106, .goto 6, 109, 112, 0, 0), (109, .iconst 5, 110, 0, 0, 0), (110, .iload_n 3, 111, 0, 0, 0), (111, .isub, 112, 0, 0, 0), (112, .iload_n 2, 113, 0, 0, 0), (113, .invokestatic 54, 116, 104, 1, 0), (116, .iload_n 2, 117, 0, 0, 0), (117, .invokestatic 58, 120, 105, 1, 0), (120, .invokestatic 143, 123, 102, 3, 0), (123, .iastore, 124, 0, 0, 0), (124, .iinc 1 1, 127, 0, 0, 0), (127, .goto (-65), 130, 62, 0, 0), (130, .aload_n 0, 131, 0, 0, 0), (131, .getfield 13, 134, 8, 3, 0), (134, .iconst 0, 135, 0, 0, 0), (135, .iaload, 136, 0, 0, 0), (136, .ireturn, 137, 0, 0, 0)]
def k_M_clear : List (Nat × mE) := [(0, .aload_n 0, 1, 0, 0, 0), (1, .iconst 0, 2, 0, 0, 0), (2, .putfield 50, 5, 8, 0, 0), (5, .aload_n 0, 6, 0, 0, 0), (6, .aload_n 0, 7, 0, 0, 0), (7, .getfield 13, 10, 8, 3, 0), (10, .iconst 0, 11, 0, 0, 0), (11, .iaload, 12, 0, 0, 0), (12, .invokevirtual 121, 15, 120, 2, 8), (15, .pop, 16, 0, 0, 0), (16, .aload_n 0, 17, 0, 0, 0), (17, .getfield 64, 20, 8, 8, 0), (20, .ifCond .ne 6, 23, 26, 0, 0), (23, .bipush (-2), 25, 0, 0, 0), (25, .ireturn, 26, 0, 0, 0), (26, .aload_n 0, 27, 0, 0, 0), (27, .invokevirtual 176, 30, 125, 1, 8), (30, .aload_n 0, 31, 0, 0, 0), (31, .getfield 64, 34, 8, 8, 0), (34, .invokestatic 127, 37, 124, 1, 0), (37, .iadd, 38, 0, 0, 0), (38, .istore_n 1, 39, 0, 0, 0), (39, .aload_n 0, 40, 0, 0, 0), (40, .getfield 13, 43, 8, 3, 0), (43, .iconst 0, 44, 0, 0, 0), (44, .iaload, 45, 0, 0, 0), (45, .iload_n 1, 46, 0, 0, 0), (46, .iadd, 47, 0, 0, 0), (47, .bipush 40, 49, 0, 0, 0), (49, .if_icmp .le 6, 52, 55, 0, 0), (52, .bipush (-3), 54, 0, 0, 0), (54, .ireturn, 55, 0, 0, 0), (55, .aload_n 0, 56, 0, 0, 0), (56, .invokevirtual 156, 59, 133, 1, 8), (59, .iconst 0, 60, 0, 0, 0), (60, .istore_n 2, 61, 0, 0, 0), (61, .iload_n 2, 62, 0, 0, 0), (62, .bipush 9, 64, 0, 0, 0), (64, .if_icmp .ge 65, 67, 129, 0, 0), (67, .iload_n 2, 68, 0, 0, 0), (68, .iconst 1, 69, 0, 0, 0), (69, .iadd, 70, 0, 0, 0), (70, .istore_n 3, 71, 0, 0, 0), (71, .iload_n 3, 72, 0, 0, 0), (72, .bipush 9, 74, 0, 0, 0), (74, .if_icmp .ge 49, 77, 123, 0, 0), (77, .aload_n 0, 78, 0, 0, 0), (78, .getfield 23, 81, 8, 9, 0), (81, .iload_n 2, 82, 0, 0, 0), (82, .iaload, 83, 0, 0, 0), (83, .iload_n 3, 84, 0, 0, 0), (84, .invokestatic 67, 87, 106, 2, 0), (87, .ifCond .eq 30, 90, 117, 0, 0), (90, .aload_n 0, 91, 0, 0, 0), (91, .getfield 13, 94, 8, 3, 0), (94, .iconst 0, 95, 0, 0, 0), (95, .dup2, 96, 0, 0, 0), (96, .iaload, 97, 0, 0, 0), (97, .iconst 1, 98, 0, 0, 0), (98, .iadd, 99, 0, 0, 0), (99, .iastore, 100, 0, 0, 0), (100, .aload_n 0, 101, 0, 0, 0), (101, .getfield 13, 104, 8, 3, 0), (104, .aload_n 0, 105, 0, 0, 0), (105, .getfield 13, 108, 8, 3, 0), (108, .iconst 0, 109, 0, 0, 0), (109, .iaload, 110, 0, 0, 0), (110, .iconst 3, 111, 0, 0, 0), (111, .iload_n 2, 112, 0, 0, 0), (112, .iload_n 3, 113, 0, 0, 0), (113, .invokestatic 143, 116, 102, 3, 0), (116, .iastore, 117, 0, 0, 0), (117, .iinc 3 1, 120, 0, 0, 0), (120, .goto (-49), 123, 71, 0, 0), (123, .iinc 2 1, 126, 0, 0, 0), (126, .goto (-65), 129, 61, 0, 0), (129, .iconst 0, 130, 0, 0, 0), (130, .istore_n 2, 131, 0, 0, 0), (131, .iload_n 2, 132, 0, 0, 0), (132, .bipush 9, 134, 0, 0, 0), (134, .if_icmp .ge 47, 137, 181, 0, 0), (137, .aload_n 0, 138, 0, 0, 0), (138, .getfield 64, 141, 8, 8, 0), (141, .iload_n 2, 142, 0, 0, 0), (142, .invokestatic 67, 145, 106, 2, 0), (145, .ifCond .eq 30, 148, 175, 0, 0), (148, .aload_n 0, 149, 0, 0, 0), (149, .getfield 13, 152, 8, 3, 0), (152, .iconst 0, 153, 0, 0, 0), (153, .dup2, 154, 0, 0, 0), (154, .iaload, 155, 0, 0, 0), (155, .iconst 1, 156, 0, 0, 0), (156, .iadd, 157, 0, 0, 0), (157, .iastore, 158, 0, 0, 0), (158, .aload_n 0, 159, 0, 0, 0), (159, .getfield 13, 162, 8, 3, 0), (162, .aload_n 0, 163, 0, 0, 0), (163, .getfield 13, 166, 8, 3, 0), (166, .iconst 0, 167, 0, 0, 0), (167, .iaload, 168, 0, 0, 0), (168, .iconst 1, 169, 0, 0, 0), (169, .iload_n 2, 170, 0, 0, 0), (170, .iconst 0, 171, 0, 0, 0), (171, .invokestatic 143, 174, 102, 3, 0), (174, .iastore, 175, 0, 0, 0), (175, .iinc 2 1, 178, 0, 0, 0), (178, .goto (-47), 181, 131, 0, 0), (181, .iload_n 1, 182, 0, 0, 0), (182, .ireturn, 183, 0, 0, 0)]
def k_M_undo : List (Nat × mE) := [(0, .aload_n 0, 1, 0, 0, 0), (1, .iconst 0, 2, 0, 0, 0), (2, .putfield 50, 5, 8, 0, 0), (5, .aload_n 0, 6, 0, 0, 0), (6, .getfield 153, 9, 8, 5, 0), (9, .ifCond .ne 6, 12, 15, 0, 0), (12, .bipush (-2), 14, 0, 0, 0), (14, .ireturn, 15, 0, 0, 0), (15, .aload_n 0, 16, 0, 0, 0), (16, .dup, 17, 0, 0, 0), (17, .getfield 153, 20, 8, 5, 0), (20, .iconst 1, 21, 0, 0, 0), (21, .isub, 22, 0, 0, 0), (22, .putfield 153, 25, 8, 5, 0), (25, .iconst 0, 26, 0, 0, 0), (26, .istore_n 1, 27, 0, 0, 0), (27, .iload_n 1, 28, 0, 0, 0), (28, .bipush 41, 30, 0, 0, 0), (30, .if_icmp .ge 29, 33, 59, 0, 0), (33, .aload_n 0, 34, 0, 0, 0), (34, .getfield 13, 37, 8, 3, 0), (37, .iload_n 1, 38, 0, 0, 0), (38, .aload_n 0, 39, 0, 0, 0), (39, .getfield 17, 42, 8, 4, 0), (42, .bipush 41, 44, 0, 0, 0), (44, .aload_n 0, 45, 0, 0, 0), (45, .getfield 153, 48, 8, 5, 0), (48, .imul, 49, 0, 0, 0), (49, .iload_n 1, 50, 0, 0, 0), (50, .iadd, 51, 0, 0, 0), (51, .iaload, 52, 0, 0, 0), (52, .iastore, 53, 0, 0, 0), (53, .iinc 1 1, 56, 0, 0, 0), (56, .goto (-29), 59, 27, 0, 0), (59, .aload_n 0, 60, 0, 0, 0), (60, .getfield 153, 63, 8, 5, 0), (63, .ireturn, 64, 0, 0, 0)]
def k_M_letterOf : List (Nat × mE) := [(0, .iload_n 1, 1, 0, 0, 0), (1, .invokestatic 61, 4, 103, 1, 0), (4, .istore_n 3, 5, 0, 0, 0), (5, .iload_n 2, 6, 0, 0, 0), (6, .ifCond .ne 35, 9, 41, 0, 0), (9, .iload_n 3, 10, 0, 0, 0), (10, .ifCond .ne 8, 13, 18, 0, 0), (13, .bipush 118, 15, 0, 0, 0), (15, .goto 25, 18, 40, 0, 0), (18, .iload_n 3, 19, 0, 0, 0), (19, .iconst 1, 20, 0, 0, 0), (20, .if_icmp .ne 8, 23, 28, 0, 0), (23, .bipush 119, 25, 0, 0, 0), (25, .goto 15, 28, 40, 0, 0), (28, .iload_n 3, 29, 0, 0, 0), (29, .iconst 2, 30, 0, 0, 0), (30, .if_icmp .ne 8, 33, 38, 0, 0), (33, .bipush 101, 35, 0, 0, 0), (35, .goto 5, 38, 40, 0, 0), (38, .bipush 102, 40, 0, 0, 0), (40, .ireturn, 41, 0, 0, 0), (41, .iload_n 2, 42, 0, 0, 0), (42, .iconst 1, 43, 0, 0, 0), (43, .if_icmp .ne 13, 46, 56, 0, 0), (46, .bipush 48, 48, 0, 0, 0), (48, .iload_n 1, 49, 0, 0, 0), (49, .invokestatic 54, 52, 104, 1, 0), (52, .iadd, 53, 0, 0, 0), (53, .goto 25, 56, 78, 0, 0), (56, .iload_n 2, 57, 0, 0, 0), (57, .iconst 2, 58, 0, 0, 0), (58, .if_icmp .ne 18, 61, 76, 0, 0), (61, .iload_n 3, 62, 0, 0, 0), (62, .iconst 1, 63, 0, 0, 0), (63, .if_icmp .le 13, 66, 76, 0, 0), (66, .bipush 48, 68, 0, 0, 0), (68, .iload_n 1, 69, 0, 0, 0), (69, .invokestatic 58, 72, 105, 1, 0), (72, .iadd, 73, 0, 0, 0), (73, .goto 5, 76, 78, 0, 0), (76, .bipush 59, 78, 0, 0, 0), (78, .ireturn, 79, 0, 0, 0)]
def k_M_spelt : List (Nat × mE) := [(0, .aload_n 0, 1, 0, 0, 0), (1, .iconst 0, 2, 0, 0, 0), (2, .putfield 50, 5, 8, 0, 0), (5, .iload_n 1, 6, 0, 0, 0), (6, .ifCond .ge 5, 9, 11, 0, 0), (9, .iconst (-1), 10, 0, 0, 0), (10, .ireturn, 11, 0, 0, 0), (11, .iload_n 1, 12, 0, 0, 0), (12, .istore_n 2, 13, 0, 0, 0), (13, .iconst 1, 14, 0, 0, 0), (14, .istore_n 3, 15, 0, 0, 0), (15, .iload_n 3, 16, 0, 0, 0), (16, .aload_n 0, 17, 0, 0, 0), (17, .getfield 13, 20, 8, 3, 0), (20, .iconst 0, 21, 0, 0, 0), (21, .iaload, 22, 0, 0, 0), (22, .if_icmp .gt 52, 25, 74, 0, 0), (25, .aload_n 0, 26, 0, 0, 0), (26, .getfield 13, 29, 8, 3, 0), (29, .iload_n 3, 30, 0, 0, 0), (30, .iaload, 31, 0, 0, 0), (31, .invokestatic 61, 34, 103, 1, 0), (34, .iconst 2, 35, 0, 0, 0), (35, .if_icmp .ge 7, 38, 42, 0, 0), (38, .iconst 3, 39, 0, 0, 0), (39, .goto 4, 42, 43, 0, 0), (42, .iconst 4, 43, 0, 0, 0), (43, .istore 4, 45, 0, 0, 0), (45, .iload_n 2, 46, 0, 0, 0), (46, .iload 4, 48, 0, 0, 0), (48, .if_icmp .ge 15, 51, 63, 0, 0), (51, .aload_n 0, 52, 0, 0, 0), (52, .aload_n 0, 53, 0, 0, 0), (53, .getfield 13, 56, 8, 3, 0), (56, .iload_n 3, 57, 0, 0, 0), (57, .iaload, 58, 0, 0, 0), (58, .iload_n 2, 59, 0, 0, 0), (59, .invokevirtual 179, 62, 143, 3, 8), (62, .ireturn, 63, 0, 0, 0), (63, .iload_n 2, 64, 0, 0, 0), (64, .iload 4, 66, 0, 0, 0), (66, .isub, 67, 0, 0, 0), (67, .istore_n 2, 68, 0, 0, 0), (68, .iinc 3 1, 71, 0, 0, 0), (71, .goto (-56), 74, 15, 0, 0), (74, .bipush (-4), 76, 0, 0, 0), (76, .ireturn, 77, 0, 0, 0)]
def k_M_told : List (Nat × mE) := [(0, .aload_n 0, 1, 0, 0, 0), (1, .iconst 0, 2, 0, 0, 0), (2, .putfield 50, 5, 8, 0, 0), (5, .iload_n 1, 6, 0, 0, 0), (6, .iconst 1, 7, 0, 0, 0), (7, .aload_n 0, 8, 0, 0, 0), (8, .getfield 13, 11, 8, 3, 0), (11, .iconst 0, 12, 0, 0, 0), (12, .iaload, 13, 0, 0, 0), (13, .invokestatic 130, 16, 101, 3, 0), (16, .ifCond .eq 12, 19, 28, 0, 0), (19, .iload_n 2, 20, 0, 0, 0), (20, .iconst 0, 21, 0, 0, 0), (21, .iconst 2, 22, 0, 0, 0), (22, .invokestatic 130, 25, 101, 3, 0), (25, .ifCond .ne 5, 28, 30, 0, 0), (28, .iconst (-1), 29, 0, 0, 0), (29, .ireturn, 30, 0, 0, 0), (30, .aload_n 0, 31, 0, 0, 0), (31, .getfield 13, 34, 8, 3, 0), (34, .iload_n 1, 35, 0, 0, 0), (35, .iaload, 36, 0, 0, 0), (36, .invokestatic 61, 39, 103, 1, 0), (39, .istore_n 3, 40, 0, 0, 0), (40, .iload_n 2, 41, 0, 0, 0), (41, .ifCond .ne 7, 44, 48, 0, 0), (44, .iload_n 3, 45, 0, 0, 0), (45, .goto 39, 48, 84, 0, 0), (48, .iload_n 2, 49, 0, 0, 0), (49, .iconst 1, 50, 0, 0, 0), (50, .if_icmp .ne 15, 53, 65, 0, 0), (53, .aload_n 0, 54, 0, 0, 0), (54, .getfield 13, 57, 8, 3, 0), (57, .iload_n 1, 58, 0, 0, 0), (58, .iaload, 59, 0, 0, 0), (59, .invokestatic 54, 62, 104, 1, 0), (62, .goto 22, 65, 84, 0, 0), (65, .iload_n 3, 66, 0, 0, 0), (66, .iconst 2, 67, 0, 0, 0), (67, .if_icmp .ge 8, 70, 75, 0, 0), (70, .bipush (-4), 72, 0, 0, 0), (72, .goto 12, 75, 84, 0, 0), (75, .aload_n 0, 76, 0, 0, 0), (76, .getfield 13, 79, 8, 3, 0), (79, .iload_n 1, 80, 0, 0, 0), (80, .iaload, 81, 0, 0, 0), (81, .invokestatic 58, 84, 105, 1, 0), (84, .ireturn, 85, 0, 0, 0)]
def k_M_graph : List (Nat × mE) := [(0, .aload_n 0, 1, 0, 0, 0), (1, .iconst 0, 2, 0, 0, 0), (2, .putfield 50, 5, 8, 0, 0), (5, .iload_n 1, 6, 0, 0, 0), (6, .iconst 0, 7, 0, 0, 0), (7, .aload_n 0, 8, 0, 0, 0), (8, .getfield 13, 11, 8, 3, 0), (11, .iconst 0, 12, 0, 0, 0), (12, .iaload, 13, 0, 0, 0), (13, .invokestatic 130, 16, 101, 3, 0), (16, .ifCond .eq 12, 19, 28, 0, 0), (19, .iload_n 2, 20, 0, 0, 0), (20, .iconst 0, 21, 0, 0, 0), (21, .iconst 3, 22, 0, 0, 0), (22, .invokestatic 130, 25, 101, 3, 0), (25, .ifCond .ne 5, 28, 30, 0, 0), (28, .iconst (-1), 29, 0, 0, 0), (29, .ireturn, 30, 0, 0, 0), (30, .aload_n 0, 31, 0, 0, 0), (31, .iload_n 1, 32, 0, 0, 0), (32, .invokevirtual 121, 35, 120, 2, 8), (35, .pop, 36, 0, 0, 0), (36, .aload_n 0, 37, 0, 0, 0), (37, .getfield 71, 40, 8, 11, 0), (40, .invokestatic 127, 43, 124, 1, 0), (43, .istore_n 3, 44, 0, 0, 0), (44, .iload_n 2, 45, 0, 0, 0), (45, .ifCond .ne 10, 48, 55, 0, 0), (48, .aload_n 0, 49, 0, 0, 0), (49, .getfield 64, 52, 8, 8, 0), (52, .goto 38, 55, 90, 0, 0), (55, .iload_n 2, 56, 0, 0, 0), (56, .iconst 1, 57, 0, 0, 0), (57, .if_icmp .ne 10, 60, 67, 0, 0), (60, .aload_n 0, 61, 0, 0, 0), (61, .invokevirtual 176, 64, 125, 1, 8), (64, .goto 26, 67, 90, 0, 0), (67, .iload_n 2, 68, 0, 0, 0), (68, .iconst 2, 69, 0, 0, 0), (69, .if_icmp .ne 7, 72, 76, 0, 0), (72, .iload_n 3, 73, 0, 0, 0), (73, .goto 17, 76, 90, 0, 0), (76, .aload_n 0, 77, 0, 0, 0), (77, .invokevirtual 176, 80, 125, 1, 8), (80, .aload_n 0, 81, 0, 0, 0), (81, .getfield 64, 84, 8, 8, 0), (84, .invokestatic 127, 87, 124, 1, 0), (87, .isub, 88, 0, 0, 0), (88, .iload_n 3, 89, 0, 0, 0), (89, .iadd, 90, 0, 0, 0), (90, .ireturn, 91, 0, 0, 0)]
def k_M_piece : List (Nat × mE) := [(0, .aload_n 0, 1, 0, 0, 0), (1, .iconst 0, 2, 0, 0, 0), (2, .putfield 50, 5, 8, 0, 0), (5, .iload_n 1, 6, 0, 0, 0), (6, .iconst 0, 7, 0, 0, 0), (7, .aload_n 0, 8, 0, 0, 0), (8, .getfield 13, 11, 8, 3, 0), (11, .iconst 0, 12, 0, 0, 0), (12, .iaload, 13, 0, 0, 0), (13, .invokestatic 130, 16, 101, 3, 0), (16, .ifCond .eq 13, 19, 29, 0, 0), (19, .iload_n 2, 20, 0, 0, 0), (20, .iconst 0, 21, 0, 0, 0), (21, .bipush 8, 23, 0, 0, 0), (23, .invokestatic 130, 26, 101, 3, 0), (26, .ifCond .ne 5, 29, 31, 0, 0), (29, .iconst (-1), 30, 0, 0, 0), (30, .ireturn, 31, 0, 0, 0), (31, .aload_n 0, 32, 0, 0, 0), (32, .iload_n 1, 33, 0, 0, 0), (33, .invokevirtual 121, 36, 120, 2, 8), (36, .pop, 37, 0, 0, 0), (37, .aload_n 0, 38, 0, 0, 0), (38, .getfield 64, 41, 8, 8, 0), (41, .iload_n 2, 42, 0, 0, 0), (42, .invokestatic 67, 45, 106, 2, 0), (45, .ifCond .eq 16, 48, 61, 0, 0), (48, .aload_n 0, 49, 0, 0, 0), (49, .aload_n 0, 50, 0, 0, 0), (50, .getfield 26, 53, 8, 10, 0), (53, .iload_n 2, 54, 0, 0, 0), (54, .iaload, 55, 0, 0, 0), (55, .invokevirtual 124, 58, 121, 2, 8), (58, .goto 5, 61, 63, 0, 0), (61, .bipush (-4), 63, 0, 0, 0), (63, .ireturn, 64, 0, 0, 0)]
def k_M_root : List (Nat × mE) := [(0, .aload_n 0, 1, 0, 0, 0), (1, .iconst 0, 2, 0, 0, 0), (2, .putfield 50, 5, 8, 0, 0), (5, .iload_n 1, 6, 0, 0, 0), (6, .iconst 0, 7, 0, 0, 0), (7, .bipush 8, 9, 0, 0, 0), (9, .invokestatic 130, 12, 101, 3, 0), (12, .ifCond .ne 5, 15, 17, 0, 0), (15, .iconst (-1), 16, 0, 0, 0), (16, .ireturn, 17, 0, 0, 0), (17, .aload_n 0, 18, 0, 0, 0), (18, .aload_n 0, 19, 0, 0, 0), (19, .getfield 13, 22, 8, 3, 0), (22, .iconst 0, 23, 0, 0, 0), (23, .iaload, 24, 0, 0, 0), (24, .invokevirtual 121, 27, 120, 2, 8), (27, .pop, 28, 0, 0, 0), (28, .aload_n 0, 29, 0, 0, 0), (29, .getfield 64, 32, 8, 8, 0), (32, .iload_n 1, 33, 0, 0, 0), (33, .invokestatic 67, 36, 106, 2, 0), (36, .ifCond .eq 17, 39, 53, 0, 0), (39, .aload_n 0, 40, 0, 0, 0), (40, .getfield 29, 43, 8, 12, 0), (43, .aload_n 0, 44, 0, 0, 0), (44, .getfield 26, 47, 8, 10, 0), (47, .iload_n 1, 48, 0, 0, 0), (48, .iaload, 49, 0, 0, 0), (49, .iaload, 50, 0, 0, 0), (50, .goto 5, 53, 55, 0, 0), (53, .bipush (-4), 55, 0, 0, 0), (55, .ireturn, 56, 0, 0, 0)]
def k_M_kin : List (Nat × mE) := [(0, .aload_n 0, 1, 0, 0, 0), (1, .iconst 0, 2, 0, 0, 0), (2, .putfield 50, 5, 8, 0, 0), (5, .iload_n 1, 6, 0, 0, 0), (6, .iconst 0, 7, 0, 0, 0), (7, .bipush 8, 9, 0, 0, 0), (9, .invokestatic 130, 12, 101, 3, 0), (12, .ifCond .eq 13, 15, 25, 0, 0), (15, .iload_n 2, 16, 0, 0, 0), (16, .iconst 0, 17, 0, 0, 0), (17, .bipush 8, 19, 0, 0, 0), (19, .invokestatic 130, 22, 101, 3, 0), (22, .ifCond .ne 5, 25, 27, 0, 0), (25, .iconst (-1), 26, 0, 0, 0), (26, .ireturn, 27, 0, 0, 0), (27, .aload_n 0, 28, 0, 0, 0), (28, .aload_n 0, 29, 0, 0, 0), (29, .getfield 13, 32, 8, 3, 0), (32, .iconst 0, 33, 0, 0, 0), (33, .iaload, 34, 0, 0, 0), (34, .invokevirtual 121, 37, 120, 2, 8), (37, .pop, 38, 0, 0, 0), (38, .aload_n 0, 39, 0, 0, 0), (39, .getfield 64, 42, 8, 8, 0), (42, .iload_n 1, 43, 0, 0, 0), (43, .invokestatic 67, 46, 106, 2, 0), (46, .ifCond .eq 29, 49, 75, 0, 0), (49, .aload_n 0, 50, 0, 0, 0), (50, .getfield 64, 53, 8, 8, 0), (53, .iload_n 2, 54, 0, 0, 0), (54, .invokestatic 67, 57, 106, 2, 0), (57, .ifCond .eq 18, 60, 75, 0, 0), (60, .aload_n 0, 61, 0, 0, 0), (61, .getfield 26, 64, 8, 10, 0), (64, .iload_n 1, 65, 0, 0, 0), (65, .iaload, 66, 0, 0, 0), (66, .aload_n 0, 67, 0, 0, 0), (67, .getfield 26, 70, 8, 10, 0), (70, .iload_n 2, 71, 0, 0, 0), (71, .iaload, 72, 0, 0, 0), (72, .if_icmp .ne 6, 75, 78, 0, 0), (75, .bipush (-2), 77, 0, 0, 0), (77, .ireturn, 78, 0, 0, 0), (78, .aload_n 0, 79, 0, 0, 0), (79, .aload_n 0, 80, 0, 0, 0), (80, .getfield 26, 83, 8, 10, 0), (83, .iload_n 1, 84, 0, 0, 0), (84, .iaload, 85, 0, 0, 0), (85, .aload_n 0, 86, 0, 0, 0), (86, .getfield 26, 89, 8, 10, 0), (89, .iload_n 2, 90, 0, 0, 0), (90, .iaload, 91, 0, 0, 0), (91, .invokevirtual 77, 94, 110, 3, 8), (94, .istore_n 3, 95, 0, 0, 0), (95, .iload_n 3, 96, 0, 0, 0), (96, .ifCond .ne 8, 99, 104, 0, 0), (99, .bipush (-4), 101, 0, 0, 0), (101, .goto 4, 104, 105, 0, 0), (104, .iload_n 3, 105, 0, 0, 0), (105, .ireturn, 106, 0, 0, 0)]
def k_M_open : List (Nat × mE) := [(0, .iconst 0, 1, 0, 0, 0), (1, .istore_n 1, 2, 0, 0, 0), (2, .iconst 0, 3, 0, 0, 0), (3, .istore_n 2, 4, 0, 0, 0), (4, .iload_n 2, 5, 0, 0, 0), (5, .aload_n 0, 6, 0, 0, 0), (6, .getfield 74, 9, 8, 16, 0), (9, .if_icmp .ge 28, 12, 37, 0, 0), (12, .iload_n 1, 13, 0, 0, 0), (13, .aload_n 0, 14, 0, 0, 0), (14, .getfield 38, 17, 8, 15, 0), (17, .iload_n 2, 18, 0, 0, 0), (18, .iaload, 19, 0, 0, 0), (19, .bipush 99, 21, 0, 0, 0), (21, .if_icmp .ne 7, 24, 28, 0, 0), (24, .iconst 1, 25, 0, 0, 0), (25, .goto 4, 28, 29, 0, 0), (28, .iconst 0, 29, 0, 0, 0), (29, .iadd, 30, 0, 0, 0), (30, .istore_n 1, 31, 0, 0, 0), (31, .iinc 2 1, 34, 0, 0, 0), (34, .goto (-30), 37, 4, 0, 0), (37, .iload_n 1, 38, 0, 0, 0), (38, .ireturn, 39, 0, 0, 0)]
def k_M_bar : List (Nat × mE) := [(0, .aload_n 0, 1, 0, 0, 0), (1, .iconst 0, 2, 0, 0, 0), (2, .putfield 50, 5, 8, 0, 0), (5, .iload_n 1, 6, 0, 0, 0), (6, .bipush (-3), 8, 0, 0, 0), (8, .if_icmp .lt 12, 11, 20, 0, 0), (11, .iload_n 2, 12, 0, 0, 0), (12, .iconst 0, 13, 0, 0, 0), (13, .iconst 2, 14, 0, 0, 0), (14, .invokestatic 130, 17, 101, 3, 0), (17, .ifCond .ne 5, 20, 22, 0, 0), (20, .iconst (-1), 21, 0, 0, 0), (21, .ireturn, 22, 0, 0, 0), (22, .aload_n 0, 23, 0, 0, 0), (23, .invokevirtual 162, 26, 122, 1, 8), (26, .pop, 27, 0, 0, 0), (27, .iload_n 1, 28, 0, 0, 0), (28, .ifCond .ge 38, 31, 66, 0, 0), (31, .iload_n 1, 32, 0, 0, 0), (32, .iconst (-1), 33, 0, 0, 0), (33, .if_icmp .ne 10, 36, 43, 0, 0), (36, .aload_n 0, 37, 0, 0, 0), (37, .getfield 74, 40, 8, 16, 0), (40, .goto 25, 43, 65, 0, 0), (43, .iload_n 1, 44, 0, 0, 0), (44, .bipush (-2), 46, 0, 0, 0), (46, .if_icmp .ne 10, 49, 56, 0, 0), (49, .aload_n 0, 50, 0, 0, 0), (50, .invokevirtual 182, 53, 150, 1, 8), (53, .goto 12, 56, 65, 0, 0), (56, .aload_n 0, 57, 0, 0, 0), (57, .getfield 74, 60, 8, 16, 0), (60, .aload_n 0, 61, 0, 0, 0), (61, .invokevirtual 182, 64, 150, 1, 8), (64, .isub, 65, 0, 0, 0), (65, .ireturn, 66, 0, 0, 0), (66, .iload_n 1, 67, 0, 0, 0), (67, .aload_n 0, 68, 0, 0, 0), (68, .getfield 74, 71, 8, 16, 0), (71, .if_icmp .lt 8, 74, 79, 0, 0), (74, .bipush (-4), 76, 0, 0, 0), (76, .goto 35, 79, 111, 0, 0), (79, .iload_n 2, 80, 0, 0, 0), (80, .ifCond .ne 12, 83, 92, 0, 0), (83, .aload_n 0, 84, 0, 0, 0), (84, .getfield 35, 87, 8, 14, 0), (87, .iload_n 1, 88, 0, 0, 0), (88, .iaload, 89, 0, 0, 0), (89, .goto 22, 92, 111, 0, 0), (92, .iload_n 2, 93, 0, 0, 0), (93, .iconst 1, 94, 0, 0, 0), (94, .if_icmp .ne 12, 97, 106, 0, 0), (97, .aload_n 0, 98, 0, 0, 0), (98, .getfield 38, 101, 8, 15, 0), (101, .iload_n 1, 102, 0, 0, 0), (102, .iaload, 103, 0, 0, 0), (103, .goto 8, 106, 111, 0, 0), (106, .aload_n 0, 107, 0, 0, 0), (107, .iload_n 1, 108, 0, 0, 0), (108, .invokevirtual 185, 111, 123, 2, 8), (111, .ireturn, 112, 0, 0, 0)]
def k_M_lasting : List (Nat × mE) := [(0, .aload_n 0, 1, 0, 0, 0), (1, .iconst 0, 2, 0, 0, 0), (2, .putfield 50, 5, 8, 0, 0), (5, .iload_n 1, 6, 0, 0, 0), (6, .iconst 0, 7, 0, 0, 0), (7, .aload_n 0, 8, 0, 0, 0), (8, .getfield 13, 11, 8, 3, 0), (11, .iconst 0, 12, 0, 0, 0), (12, .iaload, 13, 0, 0, 0), (13, .invokestatic 130, 16, 101, 3, 0), (16, .ifCond .eq 17, 19, 33, 0, 0), (19, .iload_n 2, 20, 0, 0, 0), (20, .iload_n 1, 21, 0, 0, 0), (21, .aload_n 0, 22, 0, 0, 0), (22, .getfield 13, 25, 8, 3, 0), (25, .iconst 0, 26, 0, 0, 0), (26, .iaload, 27, 0, 0, 0), (27, .invokestatic 130, 30, 101, 3, 0), (30, .ifCond .ne 5, 33, 35, 0, 0), (33, .iconst (-1), 34, 0, 0, 0), (34, .ireturn, 35, 0, 0, 0), (35, .aload_n 0, 36, 0, 0, 0), (36, .invokevirtual 162, 39, 122, 1, 8), (39, .pop, 40, 0, 0, 0), (40, .iconst 0, 41, 0, 0, 0), (41, .istore_n 3, 42, 0, 0, 0), (42, .iconst 0, 43, 0, 0, 0), (43, .istore 4, 45, 0, 0, 0), (45, .iload 4, 47, 0, 0, 0), (47, .aload_n 0, 48, 0, 0, 0), (48, .getfield 74, 51, 8, 16, 0), (51, .if_icmp .ge 39, 54, 90, 0, 0), (54, .iload_n 3, 55, 0, 0, 0), (55, .aload_n 0, 56, 0, 0, 0), (56, .getfield 35, 59, 8, 14, 0), (59, .iload 4, 61, 0, 0, 0), (61, .iaload, 62, 0, 0, 0), (62, .iload_n 1, 63, 0, 0, 0), (63, .if_icmp .gt 18, 66, 81, 0, 0), (66, .aload_n 0, 67, 0, 0, 0), (67, .getfield 38, 70, 8, 15, 0), (70, .iload 4, 72, 0, 0, 0), (72, .iaload, 73, 0, 0, 0), (73, .iload_n 2, 74, 0, 0, 0), (74, .if_icmp .le 7, 77, 81, 0, 0), (77, .iconst 1, 78, 0, 0, 0), (78, .goto 4, 81, 82, 0, 0), (81, .iconst 0, 82, 0, 0, 0), (82, .iadd, 83, 0, 0, 0), (83, .istore_n 3, 84, 0, 0, 0), (84, .iinc 4 1, 87, 0, 0, 0), (87, .goto (-42), 90, 45, 0, 0), (90, .iload_n 3, 91, 0, 0, 0), (91, .ireturn, 92, 0, 0, 0)]
def k_M_longer : List (Nat × mE) := [(0, .aload_n 0, 1, 0, 0, 0), (1, .iconst 0, 2, 0, 0, 0), (2, .putfield 50, 5, 8, 0, 0), (5, .iload_n 1, 6, 0, 0, 0), (6, .iconst 1, 7, 0, 0, 0), (7, .bipush 41, 9, 0, 0, 0), (9, .invokestatic 130, 12, 101, 3, 0), (12, .ifCond .ne 5, 15, 17, 0, 0), (15, .iconst (-1), 16, 0, 0, 0), (16, .ireturn, 17, 0, 0, 0), (17, .aload_n 0, 18, 0, 0, 0), (18, .invokevirtual 162, 21, 122, 1, 8), (21, .pop, 22, 0, 0, 0), (22, .iconst 0, 23, 0, 0, 0), (23, .istore_n 2, 24, 0, 0, 0), (24, .iconst 0, 25, 0, 0, 0), (25, .istore_n 3, 26, 0, 0, 0), (26, .iload_n 3, 27, 0, 0, 0), (27, .aload_n 0, 28, 0, 0, 0), (28, .getfield 74, 31, 8, 16, 0), (31, .if_icmp .ge 26, 34, 57, 0, 0), (34, .iload_n 2, 35, 0, 0, 0), (35, .aload_n 0, 36, 0, 0, 0), (36, .iload_n 3, 37, 0, 0, 0), (37, .invokevirtual 185, 40, 123, 2, 8), (40, .iload_n 1, 41, 0, 0, 0), (41, .if_icmp .lt 7, 44, 48, 0, 0), (44, .iconst 1, 45, 0, 0, 0), (45, .goto 4, 48, 49, 0, 0), (48, .iconst 0, 49, 0, 0, 0), (49, .iadd, 50, 0, 0, 0), (50, .istore_n 2, 51, 0, 0, 0), (51, .iinc 3 1, 54, 0, 0, 0), (54, .goto (-28), 57, 26, 0, 0), (57, .iload_n 2, 58, 0, 0, 0), (58, .ireturn, 59, 0, 0, 0)]
def k_M_longest : List (Nat × mE) := [(0, .iconst 0, 1, 0, 0, 0), (1, .istore_n 1, 2, 0, 0, 0), (2, .iconst 0, 3, 0, 0, 0), (3, .istore_n 2, 4, 0, 0, 0), (4, .iload_n 2, 5, 0, 0, 0), (5, .aload_n 0, 6, 0, 0, 0), (6, .getfield 74, 9, 8, 16, 0), (9, .if_icmp .ge 28, 12, 37, 0, 0), (12, .aload_n 0, 13, 0, 0, 0), (13, .iload_n 2, 14, 0, 0, 0), (14, .invokevirtual 185, 17, 123, 2, 8), (17, .iload_n 1, 18, 0, 0, 0), (18, .if_icmp .le 11, 21, 29, 0, 0), (21, .aload_n 0, 22, 0, 0, 0), (22, .iload_n 2, 23, 0, 0, 0), (23, .invokevirtual 185, 26, 123, 2, 8), (26, .goto 4, 29, 30, 0, 0), (29, .iload_n 1, 30, 0, 0, 0), (30, .istore_n 1, 31, 0, 0, 0), (31, .iinc 2 1, 34, 0, 0, 0), (34, .goto (-30), 37, 4, 0, 0), (37, .iload_n 1, 38, 0, 0, 0), (38, .ireturn, 39, 0, 0, 0)]
def k_M_steadiest : List (Nat × mE) := [(0, .aload_n 0, 1, 0, 0, 0), (1, .iconst 0, 2, 0, 0, 0), (2, .putfield 50, 5, 8, 0, 0), (5, .iload_n 1, 6, 0, 0, 0), (6, .iconst 0, 7, 0, 0, 0), (7, .iconst 1, 8, 0, 0, 0), (8, .invokestatic 130, 11, 101, 3, 0), (11, .ifCond .ne 5, 14, 16, 0, 0), (14, .iconst (-1), 15, 0, 0, 0), (15, .ireturn, 16, 0, 0, 0), (16, .bipush (-4), 18, 0, 0, 0), (18, .istore_n 2, 19, 0, 0, 0), (19, .bipush (-4), 21, 0, 0, 0), (21, .istore_n 3, 22, 0, 0, 0), (22, .iconst 1, 23, 0, 0, 0), (23, .istore 4, 25, 0, 0, 0), (25, .iload 4, 27, 0, 0, 0), (27, .aload_n 0, 28, 0, 0, 0), (28, .getfield 13, 31, 8, 3, 0), (31, .iconst 0, 32, 0, 0, 0), (32, .iaload, 33, 0, 0, 0), (33, .if_icmp .ge 65, 36, 98, 0, 0), (36, .aload_n 0, 37, 0, 0, 0), (37, .iload 4, 39, 0, 0, 0), (39, .invokevirtual 169, 42, 138, 2, 8), (42, .aload_n 0, 43, 0, 0, 0), (43, .invokevirtual 162, 46, 122, 1, 8), (46, .ifCond .eq 10, 49, 56, 0, 0), (49, .aload_n 0, 50, 0, 0, 0), (50, .invokevirtual 188, 53, 154, 1, 8), (53, .goto 5, 56, 58, 0, 0), (56, .bipush (-4), 58, 0, 0, 0), (58, .istore 5, 60, 0, 0, 0), (60, .aload_n 0, 61, 0, 0, 0), (61, .iload 4, 63, 0, 0, 0), (63, .invokevirtual 169, 66, 138, 2, 8), (66, .iload 5, 68, 0, 0, 0), (68, .iload_n 3, 69, 0, 0, 0), (69, .if_icmp .le 8, 72, 77, 0, 0), (72, .iload 4, 74, 0, 0, 0), (74, .goto 4, 77, 78, 0, 0), (77, .iload_n 2, 78, 0, 0, 0), (78, .istore_n 2, 79, 0, 0, 0), (79, .iload 5, 81, 0, 0, 0), (81, .iload_n 3, 82, 0, 0, 0), (82, .if_icmp .le 8, 85, 90, 0, 0), (85, .iload 5, 87, 0, 0, 0), (87, .goto 4, 90, 91, 0, 0), (90, .iload_n 3, 91, 0, 0, 0), (91, .istore_n 3, 92, 0, 0, 0), (92, .iinc 4 1, 95, 0, 0, 0), (95, .goto (-70), 98, 25, 0, 0), (98, .iload_n 1, 99, 0, 0, 0), (99, .ifCond .ne 7, 102, 106, 0, 0), (102, .iload_n 2, 103, 0, 0, 0), (103, .goto 4, 106, 107, 0, 0), (106, .iload_n 3, 107, 0, 0, 0), (107, .ireturn, 108, 0, 0, 0)]
def k_M_keep : List (Nat × mE) := [(0, .aload_n 0, 1, 0, 0, 0), (1, .iconst 0, 2, 0, 0, 0), (2, .putfield 50, 5, 8, 0, 0), (5, .aload_n 0, 6, 0, 0, 0), (6, .getfield 191, 9, 8, 7, 0), (9, .iconst 2, 10, 0, 0, 0), (10, .if_icmp .ne 6, 13, 16, 0, 0), (13, .bipush (-3), 15, 0, 0, 0), (15, .ireturn, 16, 0, 0, 0), (16, .iconst 0, 17, 0, 0, 0), (17, .istore_n 1, 18, 0, 0, 0), (18, .iload_n 1, 19, 0, 0, 0), (19, .bipush 41, 21, 0, 0, 0), (21, .if_icmp .ge 29, 24, 50, 0, 0), (24, .aload_n 0, 25, 0, 0, 0), (25, .getfield 20, 28, 8, 6, 0), (28, .bipush 41, 30, 0, 0, 0), (30, .aload_n 0, 31, 0, 0, 0), (31, .getfield 191, 34, 8, 7, 0), (34, .imul, 35, 0, 0, 0), (35, .iload_n 1, 36, 0, 0, 0), (36, .iadd, 37, 0, 0, 0), (37, .aload_n 0, 38, 0, 0, 0), (38, .getfield 13, 41, 8, 3, 0), (41, .iload_n 1, 42, 0, 0, 0), (42, .iaload, 43, 0, 0, 0), (43, .iastore, 44, 0, 0, 0), (44, .iinc 1 1, 47, 0, 0, 0), (47, .goto (-29), 50, 18, 0, 0), (50, .aload_n 0, 51, 0, 0, 0), (51, .dup, 52, 0, 0, 0), (52, .getfield 191, 55, 8, 7, 0), (55, .iconst 1, 56, 0, 0, 0), (56, .iadd, 57, 0, 0, 0), (57, .putfield 191, 60, 8, 7, 0), (60, .aload_n 0, 61, 0, 0, 0), (61, .getfield 191, 64, 8, 7, 0), (64, .ireturn, 65, 0, 0, 0)]
def k_M_turnsOver : List (Nat × mE) := [(0, .iconst 0, 1, 0, 0, 0), (1, .istore_n 1, 2, 0, 0, 0), (2, .iload_n 1, 3, 0, 0, 0), (3, .bipush 41, 5, 0, 0, 0), (5, .if_icmp .ge 57, 8, 62, 0, 0), (8, .aload_n 0, 9, 0, 0, 0), (9, .getfield 13, 12, 8, 3, 0), (12, .iload_n 1, 13, 0, 0, 0), (13, .iaload, 14, 0, 0, 0), (14, .istore_n 2, 15, 0, 0, 0), (15, .aload_n 0, 16, 0, 0, 0), (16, .getfield 13, 19, 8, 3, 0), (19, .iload_n 1, 20, 0, 0, 0), (20, .aload_n 0, 21, 0, 0, 0), (21, .getfield 20, 24, 8, 6, 0), (24, .bipush 41, 26, 0, 0, 0), (26, .aload_n 0, 27, 0, 0, 0), (27, .getfield 191, 30, 8, 7, 0), (30, .imul, 31, 0, 0, 0), (31, .bipush 41, 33, 0, 0, 0), (33, .isub, 34, 0, 0, 0), (34, .iload_n 1, 35, 0, 0, 0), (35, .iadd, 36, 0, 0, 0), (36, .iaload, 37, 0, 0, 0), (37, .iastore, 38, 0, 0, 0), (38, .aload_n 0, 39, 0, 0, 0), (39, .getfield 20, 42, 8, 6, 0), (42, .bipush 41, 44, 0, 0, 0), (44, .aload_n 0, 45, 0, 0, 0), (45, .getfield 191, 48, 8, 7, 0), (48, .imul, 49, 0, 0, 0), (49, .bipush 41, 51, 0, 0, 0), (51, .isub, 52, 0, 0, 0), (52, .iload_n 1, 53, 0, 0, 0), (53, .iadd, 54, 0, 0, 0), (54, .iload_n 2, 55, 0, 0, 0), (55, .iastore, 56, 0, 0, 0), (56, .iinc 1 1, 59, 0, 0, 0), (59, .goto (-57), 62, 2, 0, 0), (62, .return_, 63, 0, 0, 0)]
def k_M_other : List (Nat × mE) := [(0, .aload_n 0, 1, 0, 0, 0), (1, .iconst 0, 2, 0, 0, 0), (2, .putfield 50, 5, 8, 0, 0), (5, .aload_n 0, 6, 0, 0, 0), (6, .getfield 191, 9, 8, 7, 0), (9, .ifCond .ne 6, 12, 15, 0, 0), (12, .bipush (-2), 14, 0, 0, 0), (14, .ireturn, 15, 0, 0, 0), (15, .aload_n 0, 16, 0, 0, 0), (16, .invokevirtual 162, 19, 122, 1, 8), (19, .pop, 20, 0, 0, 0), (20, .aload_n 0, 21, 0, 0, 0), (21, .invokevirtual 166, 24, 136, 1, 8), (24, .aload_n 0, 25, 0, 0, 0), (25, .invokevirtual 194, 28, 157, 1, 8), (28, .aload_n 0, 29, 0, 0, 0), (29, .invokevirtual 162, 32, 122, 1, 8), (32, .pop, 33, 0, 0, 0), (33, .aload_n 0, 34, 0, 0, 0), (34, .invokevirtual 173, 37, 137, 1, 8), (37, .istore_n 1, 38, 0, 0, 0), (38, .aload_n 0, 39, 0, 0, 0), (39, .invokevirtual 194, 42, 157, 1, 8), (42, .iload_n 1, 43, 0, 0, 0), (43, .ireturn, 44, 0, 0, 0)]
def k_M_back : List (Nat × mE) := [(0, .aload_n 0, 1, 0, 0, 0), (1, .iconst 0, 2, 0, 0, 0), (2, .putfield 50, 5, 8, 0, 0), (5, .aload_n 0, 6, 0, 0, 0), (6, .getfield 191, 9, 8, 7, 0), (9, .ifCond .ne 6, 12, 15, 0, 0), (12, .bipush (-2), 14, 0, 0, 0), (14, .ireturn, 15, 0, 0, 0), (15, .aload_n 0, 16, 0, 0, 0), (16, .invokevirtual 194, 19, 157, 1, 8), (19, .aload_n 0, 20, 0, 0, 0), (20, .dup, 21, 0, 0, 0), (21, .getfield 191, 24, 8, 7, 0), (24, .iconst 1, 25, 0, 0, 0), (25, .isub, 26, 0, 0, 0), (26, .putfield 191, 29, 8, 7, 0), (29, .aload_n 0, 30, 0, 0, 0), (30, .iconst 0, 31, 0, 0, 0), (31, .putfield 153, 34, 8, 5, 0), (34, .aload_n 0, 35, 0, 0, 0), (35, .getfield 191, 38, 8, 7, 0), (38, .ireturn, 39, 0, 0, 0)]
def k_M_count : List (Nat × mE) := [(0, .aload_n 0, 1, 0, 0, 0), (1, .iconst 0, 2, 0, 0, 0), (2, .putfield 50, 5, 8, 0, 0), (5, .iload_n 1, 6, 0, 0, 0), (6, .iconst 0, 7, 0, 0, 0), (7, .bipush 6, 9, 0, 0, 0), (9, .invokestatic 130, 12, 101, 3, 0), (12, .ifCond .ne 5, 15, 17, 0, 0), (15, .iconst (-1), 16, 0, 0, 0), (16, .ireturn, 17, 0, 0, 0), (17, .aload_n 0, 18, 0, 0, 0), (18, .aload_n 0, 19, 0, 0, 0), (19, .getfield 13, 22, 8, 3, 0), (22, .iconst 0, 23, 0, 0, 0), (23, .iaload, 24, 0, 0, 0), (24, .invokevirtual 121, 27, 120, 2, 8), (27, .pop, 28, 0, 0, 0), (28, .iload_n 1, 29, 0, 0, 0), (29, .ifCond .ne 12, 32, 41, 0, 0), (32, .aload_n 0, 33, 0, 0, 0), (33, .getfield 13, 36, 8, 3, 0), (36, .iconst 0, 37, 0, 0, 0), (37, .iaload, 38, 0, 0, 0), (38, .goto 73, 41, 111, 0, 0), (41, .iload_n 1, 42, 0, 0, 0), (42, .iconst 1, 43, 0, 0, 0), (43, .if_icmp .ne 13, 46, 56, 0, 0), (46, .aload_n 0, 47, 0, 0, 0), (47, .getfield 64, 50, 8, 8, 0), (50, .invokestatic 127, 53, 124, 1, 0), (53, .goto 58, 56, 111, 0, 0), (56, .iload_n 1, 57, 0, 0, 0), (57, .iconst 2, 58, 0, 0, 0), (58, .if_icmp .ne 10, 61, 68, 0, 0), (61, .aload_n 0, 62, 0, 0, 0), (62, .invokevirtual 176, 65, 125, 1, 8), (65, .goto 46, 68, 111, 0, 0), (68, .iload_n 1, 69, 0, 0, 0), (69, .iconst 3, 70, 0, 0, 0), (70, .if_icmp .ne 13, 73, 83, 0, 0), (73, .aload_n 0, 74, 0, 0, 0), (74, .getfield 71, 77, 8, 11, 0), (77, .invokestatic 127, 80, 124, 1, 0), (80, .goto 31, 83, 111, 0, 0), (83, .iload_n 1, 84, 0, 0, 0), (84, .iconst 4, 85, 0, 0, 0), (85, .if_icmp .ne 10, 88, 95, 0, 0), (88, .aload_n 0, 89, 0, 0, 0), (89, .getfield 153, 92, 8, 5, 0), (92, .goto 19, 95, 111, 0, 0), (95, .iload_n 1, 96, 0, 0, 0), (96, .iconst 5, 97, 0, 0, 0), (97, .if_icmp .ne 10, 100, 107, 0, 0), (100, .aload_n 0, 101, 0, 0, 0), (101, .getfield 134, 104, 8, 2, 0), (104, .goto 7, 107, 111, 0, 0), (107, .aload_n 0, 108, 0, 0, 0), (108, .getfield 191, 111, 8, 7, 0), (111, .ireturn, 112, 0, 0, 0)]
def k_Int_compare : List (Nat × mE) := [(0, .iload_n 0, 1, 0, 0, 0), (1, .iload_n 1, 2, 0, 0, 0), (2, .if_icmp .ge 7, 5, 9, 0, 0), (5, .iconst (-1), 6, 0, 0, 0), (6, .goto 13, 9, 19, 0, 0), (9, .iload_n 0, 10, 0, 0, 0), (10, .iload_n 1, 11, 0, 0, 0), (11, .if_icmp .ne 7, 14, 18, 0, 0), (14, .iconst 0, 15, 0, 0, 0), (15, .goto 4, 18, 19, 0, 0), (18, .iconst 1, 19, 0, 0, 0), (19, .ireturn, 20, 0, 0, 0)]
def k_Int_numberOfTrailingZeros : List (Nat × mE) := [(0, .iload_n 0, 1, 0, 0, 0), (1, .iconst (-1), 2, 0, 0, 0), (2, .ixor, 3, 0, 0, 0), (3, .iload_n 0, 4, 0, 0, 0), (4, .iconst 1, 5, 0, 0, 0), (5, .isub, 6, 0, 0, 0), (6, .iand, 7, 0, 0, 0), (7, .istore_n 0, 8, 0, 0, 0), (8, .iload_n 0, 9, 0, 0, 0), (9, .ifCond .gt 8, 12, 17, 0, 0), (12, .iload_n 0, 13, 0, 0, 0), (13, .bipush 32, 15, 0, 0, 0), (15, .iand, 16, 0, 0, 0), (16, .ireturn, 17, 0, 0, 0), (17, .iconst 1, 18, 0, 0, 0), (18, .istore_n 1, 19, 0, 0, 0), (19, .iload_n 0, 20, 0, 0, 0), (20, .ldc_w 264, 23, 65536, 0, 0), (23, .if_icmp .le 11, 26, 34, 0, 0), (26, .iinc 1 16, 29, 0, 0, 0), (29, .iload_n 0, 30, 0, 0, 0), (30, .bipush 16, 32, 0, 0, 0), (32, .iushr, 33, 0, 0, 0), (33, .istore_n 0, 34, 0, 0, 0), (34, .iload_n 0, 35, 0, 0, 0), (35, .sipush 256, 38, 0, 0, 0), (38, .if_icmp .le 11, 41, 49, 0, 0), (41, .iinc 1 8, 44, 0, 0, 0), (44, .iload_n 0, 45, 0, 0, 0), (45, .bipush 8, 47, 0, 0, 0), (47, .iushr, 48, 0, 0, 0), (48, .istore_n 0, 49, 0, 0, 0), (49, .iload_n 0, 50, 0, 0, 0), (50, .bipush 16, 52, 0, 0, 0), (52, .if_icmp .le 10, 55, 62, 0, 0), (55, .iinc 1 4, 58, 0, 0, 0), (58, .iload_n 0, 59, 0, 0, 0), (59, .iconst 4, 60, 0, 0, 0), (60, .iushr, 61, 0, 0, 0), (61, .istore_n 0, 62, 0, 0, 0), (62, .iload_n 0, 63, 0, 0, 0), (63, .iconst 4, 64, 0, 0, 0), (64, .if_icmp .le 10, 67, 74, 0, 0), (67, .iinc 1 2, 70, 0, 0, 0), (70, .iload_n 0, 71, 0, 0, 0), (71, .iconst 2, 72, 0, 0, 0), (72, .iushr, 73, 0, 0, 0), (73, .istore_n 0, 74, 0, 0, 0), (74, .iload_n 1, 75, 0, 0, 0), (75, .iload_n 0, 76, 0, 0, 0), (76, .iconst 1, 77, 0, 0, 0), (77, .iushr, 78, 0, 0, 0), (78, .iadd, 79, 0, 0, 0), (79, .ireturn, 80, 0, 0, 0)]
def k_Int_bitCount : List (Nat × mE) := [(0, .iload_n 0, 1, 0, 0, 0), (1, .iload_n 0, 2, 0, 0, 0), (2, .iconst 1, 3, 0, 0, 0), (3, .iushr, 4, 0, 0, 0), (4, .ldc_w 265, 7, 1431655765, 0, 0), (7, .iand, 8, 0, 0, 0), (8, .isub, 9, 0, 0, 0), (9, .istore_n 0, 10, 0, 0, 0), (10, .iload_n 0, 11, 0, 0, 0), (11, .ldc_w 266, 14, 858993459, 0, 0), (14, .iand, 15, 0, 0, 0), (15, .iload_n 0, 16, 0, 0, 0), (16, .iconst 2, 17, 0, 0, 0), (17, .iushr, 18, 0, 0, 0), (18, .ldc_w 266, 21, 858993459, 0, 0), (21, .iand, 22, 0, 0, 0), (22, .iadd, 23, 0, 0, 0), (23, .istore_n 0, 24, 0, 0, 0), (24, .iload_n 0, 25, 0, 0, 0), (25, .iload_n 0, 26, 0, 0, 0), (26, .iconst 4, 27, 0, 0, 0), (27, .iushr, 28, 0, 0, 0), (28, .iadd, 29, 0, 0, 0), (29, .ldc_w 267, 32, 252645135, 0, 0), (32, .iand, 33, 0, 0, 0), (33, .istore_n 0, 34, 0, 0, 0), (34, .iload_n 0, 35, 0, 0, 0), (35, .iload_n 0, 36, 0, 0, 0), (36, .bipush 8, 38, 0, 0, 0), (38, .iushr, 39, 0, 0, 0), (39, .iadd, 40, 0, 0, 0), (40, .istore_n 0, 41, 0, 0, 0), (41, .iload_n 0, 42, 0, 0, 0), (42, .iload_n 0, 43, 0, 0, 0), (43, .bipush 16, 45, 0, 0, 0), (45, .iushr, 46, 0, 0, 0), (46, .iadd, 47, 0, 0, 0), (47, .istore_n 0, 48, 0, 0, 0), (48, .iload_n 0, 49, 0, 0, 0), (49, .bipush 63, 51, 0, 0, 0), (51, .iand, 52, 0, 0, 0), (52, .ireturn, 53, 0, 0, 0)]
def k_Arr_fill : List (Nat × mE) := [(0, .iconst 0, 1, 0, 0, 0), (1, .istore_n 2, 2, 0, 0, 0), (2, .aload_n 0, 3, 0, 0, 0), (3, .arraylength, 4, 0, 0, 0), (4, .istore_n 3, 5, 0, 0, 0), (5, .iload_n 2, 6, 0, 0, 0), (6, .iload_n 3, 7, 0, 0, 0), (7, .if_icmp .ge 13, 10, 20, 0, 0), (10, .aload_n 0, 11, 0, 0, 0), (11, .iload_n 2, 12, 0, 0, 0), (12, .iload_n 1, 13, 0, 0, 0), (13, .iastore, 14, 0, 0, 0), (14, .iinc 2 1, 17, 0, 0, 0), (17, .goto (-12), 20, 5, 0, 0), (20, .return_, 21, 0, 0, 0)]
abbrev n_Bars_empty : Nat := 0
def q_Bars_empty : mM := (⟨"ZigzagPieces$Bars", "empty", "()V"⟩, prog_2_method_2_code, 1, none, k_Bars_empty)
abbrev n_Bars_size : Nat := 1
def q_Bars_size : mM := (⟨"ZigzagPieces$Bars", "size", "()I"⟩, prog_2_method_3_code, 1, (some .int), k_Bars_size)
abbrev n_Bars_open : Nat := 2
def q_Bars_open : mM := (⟨"ZigzagPieces$Bars", "open", "()I"⟩, prog_2_method_4_code, 1, (some .int), k_Bars_open)
abbrev n_Bars_add : Nat := 3
def q_Bars_add : mM := (⟨"ZigzagPieces$Bars", "add", "(II)V"⟩, prog_2_method_5_code, 4, none, k_Bars_add)
abbrev n_Bars_beginOf : Nat := 4
def q_Bars_beginOf : mM := (⟨"ZigzagPieces$Bars", "beginOf", "(I)I"⟩, prog_2_method_6_code, 2, (some .int), k_Bars_beginOf)
abbrev n_Bars_endOf : Nat := 5
def q_Bars_endOf : mM := (⟨"ZigzagPieces$Bars", "endOf", "(I)I"⟩, prog_2_method_7_code, 2, (some .int), k_Bars_endOf)
abbrev n_Bars_lengthOf : Nat := 6
def q_Bars_lengthOf : mM := (⟨"ZigzagPieces$Bars", "lengthOf", "(II)I"⟩, prog_2_method_8_code, 3, (some .int), k_Bars_lengthOf)
abbrev n_Bars_longest : Nat := 7
def q_Bars_longest : mM := (⟨"ZigzagPieces$Bars", "longest", "(I)I"⟩, prog_2_method_9_code, 4, (some .int), k_Bars_longest)
abbrev n_Bars_atLeast : Nat := 8
def q_Bars_atLeast : mM := (⟨"ZigzagPieces$Bars", "atLeast", "(II)I"⟩, prog_2_method_10_code, 5, (some .int), k_Bars_atLeast)
abbrev n_Bars_spanning : Nat := 9
def q_Bars_spanning : mM := (⟨"ZigzagPieces$Bars", "spanning", "(III)I"⟩, prog_2_method_11_code, 6, (some .int), k_Bars_spanning)
abbrev n_Bars_withoutPartnerIn : Nat := 10
def q_Bars_withoutPartnerIn : mM := (⟨"ZigzagPieces$Bars", "withoutPartnerIn", "(LZigzagPieces$Bars;)I"⟩, prog_2_method_12_code, 6, (some .int), k_Bars_withoutPartnerIn)
abbrev n_Bars_lastOf : Nat := 11
def q_Bars_lastOf : mM := (⟨"ZigzagPieces$Bars", "lastOf", "(II)I"⟩, prog_2_method_13_code, 4, (some .int), k_Bars_lastOf)
abbrev n_Bars_compare : Nat := 12
def q_Bars_compare : mM := (⟨"ZigzagPieces$Bars", "compare", "(III)I"⟩, prog_2_method_14_code, 5, (some .int), k_Bars_compare)
abbrev n_Kin_empty : Nat := 13
def q_Kin_empty : mM := (⟨"ZigzagPieces$Kinship", "empty", "()V"⟩, prog_3_method_2_code, 1, none, k_Kin_empty)
abbrev n_Kin_rootOf : Nat := 14
def q_Kin_rootOf : mM := (⟨"ZigzagPieces$Kinship", "rootOf", "(I)I"⟩, prog_3_method_3_code, 2, (some .int), k_Kin_rootOf)
abbrev n_Kin_sinceOf : Nat := 15
def q_Kin_sinceOf : mM := (⟨"ZigzagPieces$Kinship", "sinceOf", "(II)I"⟩, prog_3_method_4_code, 3, (some .int), k_Kin_sinceOf)
abbrev n_Kin_come : Nat := 16
def q_Kin_come : mM := (⟨"ZigzagPieces$Kinship", "come", "(II)V"⟩, prog_3_method_5_code, 3, none, k_Kin_come)
abbrev n_Kin_go : Nat := 17
def q_Kin_go : mM := (⟨"ZigzagPieces$Kinship", "go", "(I)V"⟩, prog_3_method_6_code, 3, none, k_Kin_go)
abbrev n_Kin_part : Nat := 18
def q_Kin_part : mM := (⟨"ZigzagPieces$Kinship", "part", "(III)V"⟩, prog_3_method_7_code, 5, none, k_Kin_part)
abbrev n_Kin_beginOfGoing : Nat := 19
def q_Kin_beginOfGoing : mM := (⟨"ZigzagPieces$Kinship", "beginOfGoing", "(II)I"⟩, prog_3_method_8_code, 5, (some .int), k_Kin_beginOfGoing)
abbrev n_Kin_beginOfJoining : Nat := 20
def q_Kin_beginOfJoining : mM := (⟨"ZigzagPieces$Kinship", "beginOfJoining", "(II)I"⟩, prog_3_method_9_code, 4, (some .int), k_Kin_beginOfJoining)
abbrev n_Kin_join : Nat := 21
def q_Kin_join : mM := (⟨"ZigzagPieces$Kinship", "join", "(III)V"⟩, prog_3_method_10_code, 7, none, k_Kin_join)
abbrev n_Kin_lowerRoots : Nat := 22
def q_Kin_lowerRoots : mM := (⟨"ZigzagPieces$Kinship", "lowerRoots", "(II)V"⟩, prog_3_method_11_code, 4, none, k_Kin_lowerRoots)
abbrev n_Kin_setSinceOfAll : Nat := 23
def q_Kin_setSinceOfAll : mM := (⟨"ZigzagPieces$Kinship", "setSinceOfAll", "(III)V"⟩, prog_3_method_12_code, 5, none, k_Kin_setSinceOfAll)
abbrev n_Kin_setSince : Nat := 24
def q_Kin_setSince : mM := (⟨"ZigzagPieces$Kinship", "setSince", "(III)V"⟩, prog_3_method_13_code, 4, none, k_Kin_setSince)
abbrev n_Net_empty : Nat := 25
def q_Net_empty : mM := (⟨"ZigzagPieces$Net", "empty", "()V"⟩, prog_4_method_2_code, 1, none, k_Net_empty)
abbrev n_Net_points : Nat := 26
def q_Net_points : mM := (⟨"ZigzagPieces$Net", "points", "()I"⟩, prog_4_method_3_code, 1, (some .int), k_Net_points)
abbrev n_Net_edges : Nat := 27
def q_Net_edges : mM := (⟨"ZigzagPieces$Net", "edges", "()I"⟩, prog_4_method_4_code, 1, (some .int), k_Net_edges)
abbrev n_Net_has : Nat := 28
def q_Net_has : mM := (⟨"ZigzagPieces$Net", "has", "(I)Z"⟩, prog_4_method_5_code, 2, (some .boolean), k_Net_has)
abbrev n_Net_joined : Nat := 29
def q_Net_joined : mM := (⟨"ZigzagPieces$Net", "joined", "(II)Z"⟩, prog_4_method_6_code, 3, (some .boolean), k_Net_joined)
abbrev n_Net_canDo : Nat := 30
def q_Net_canDo : mM := (⟨"ZigzagPieces$Net", "canDo", "(I)Z"⟩, prog_4_method_7_code, 4, (some .boolean), k_Net_canDo)
abbrev n_Net_change : Nat := 31
def q_Net_change : mM := (⟨"ZigzagPieces$Net", "change", "(I)V"⟩, prog_4_method_8_code, 4, none, k_Net_change)
abbrev n_Net_pieceOf : Nat := 32
def q_Net_pieceOf : mM := (⟨"ZigzagPieces$Net", "pieceOf", "(I)I"⟩, prog_4_method_9_code, 6, (some .int), k_Net_pieceOf)
abbrev n_Net_pieces : Nat := 33
def q_Net_pieces : mM := (⟨"ZigzagPieces$Net", "pieces", "()I"⟩, prog_4_method_10_code, 4, (some .int), k_Net_pieces)
abbrev n_Net_loops : Nat := 34
def q_Net_loops : mM := (⟨"ZigzagPieces$Net", "loops", "()I"⟩, prog_4_method_11_code, 1, (some .int), k_Net_loops)
abbrev n_Net_nearOf : Nat := 35
def q_Net_nearOf : mM := (⟨"ZigzagPieces$Net", "nearOf", "(I)I"⟩, prog_4_method_12_code, 2, (some .int), k_Net_nearOf)
abbrev n_Row_size : Nat := 36
def q_Row_size : mM := (⟨"ZigzagPieces$Row", "size", "()I"⟩, prog_5_method_2_code, 1, (some .int), k_Row_size)
abbrev n_Row_empty : Nat := 37
def q_Row_empty : mM := (⟨"ZigzagPieces$Row", "empty", "()V"⟩, prog_5_method_3_code, 1, none, k_Row_empty)
abbrev n_Row_add : Nat := 38
def q_Row_add : mM := (⟨"ZigzagPieces$Row", "add", "(I)V"⟩, prog_5_method_4_code, 2, none, k_Row_add)
abbrev n_Row_removeLast : Nat := 39
def q_Row_removeLast : mM := (⟨"ZigzagPieces$Row", "removeLast", "()V"⟩, prog_5_method_5_code, 1, none, k_Row_removeLast)
abbrev n_Row_actAt : Nat := 40
def q_Row_actAt : mM := (⟨"ZigzagPieces$Row", "actAt", "(I)I"⟩, prog_5_method_6_code, 2, (some .int), k_Row_actAt)
abbrev n_Row_swapWithNext : Nat := 41
def q_Row_swapWithNext : mM := (⟨"ZigzagPieces$Row", "swapWithNext", "(I)V"⟩, prog_5_method_7_code, 3, none, k_Row_swapWithNext)
abbrev n_Row_copy : Nat := 42
def q_Row_copy : mM := (⟨"ZigzagPieces$Row", "copy", "(LZigzagPieces$Row;)V"⟩, prog_5_method_8_code, 3, none, k_Row_copy)
abbrev n_Shf_size : Nat := 43
def q_Shf_size : mM := (⟨"ZigzagPieces$Shelf", "size", "()I"⟩, prog_6_method_2_code, 1, (some .int), k_Shf_size)
abbrev n_Shf_empty : Nat := 44
def q_Shf_empty : mM := (⟨"ZigzagPieces$Shelf", "empty", "()V"⟩, prog_6_method_3_code, 1, none, k_Shf_empty)
abbrev n_Shf_put : Nat := 45
def q_Shf_put : mM := (⟨"ZigzagPieces$Shelf", "put", "(LZigzagPieces$Row;)V"⟩, prog_6_method_4_code, 3, none, k_Shf_put)
abbrev n_Shf_last : Nat := 46
def q_Shf_last : mM := (⟨"ZigzagPieces$Shelf", "last", "()LZigzagPieces$Row;"⟩, prog_6_method_5_code, 1, (some (.object "ZigzagPieces$Row")), k_Shf_last)
abbrev n_Shf_removeLast : Nat := 47
def q_Shf_removeLast : mM := (⟨"ZigzagPieces$Shelf", "removeLast", "()V"⟩, prog_6_method_6_code, 1, none, k_Shf_removeLast)
abbrev n_Shf_loseOldest : Nat := 48
def q_Shf_loseOldest : mM := (⟨"ZigzagPieces$Shelf", "loseOldest", "()V"⟩, prog_6_method_7_code, 3, none, k_Shf_loseOldest)
abbrev n_Sto_play : Nat := 49
def q_Sto_play : mM := (⟨"ZigzagPieces$Story", "play", "(LZigzagPieces$Row;I)Z"⟩, prog_7_method_2_code, 5, (some .boolean), k_Sto_play)
abbrev n_Sto_step : Nat := 50
def q_Sto_step : mM := (⟨"ZigzagPieces$Story", "step", "(II)V"⟩, prog_7_method_3_code, 7, none, k_Sto_step)
abbrev n_Sto_addOpenBars : Nat := 51
def q_Sto_addOpenBars : mM := (⟨"ZigzagPieces$Story", "addOpenBars", "()V"⟩, prog_7_method_4_code, 3, none, k_Sto_addOpenBars)
abbrev n_Txt_length : Nat := 52
def q_Txt_length : mM := (⟨"ZigzagPieces$Text", "length", "()I"⟩, prog_8_method_2_code, 1, (some .int), k_Txt_length)
abbrev n_Txt_empty : Nat := 53
def q_Txt_empty : mM := (⟨"ZigzagPieces$Text", "empty", "()V"⟩, prog_8_method_3_code, 1, none, k_Txt_empty)
abbrev n_Txt_add : Nat := 54
def q_Txt_add : mM := (⟨"ZigzagPieces$Text", "add", "(I)V"⟩, prog_8_method_4_code, 2, none, k_Txt_add)
abbrev n_Txt_actAt : Nat := 55
def q_Txt_actAt : mM := (⟨"ZigzagPieces$Text", "actAt", "(I)I"⟩, prog_8_method_5_code, 6, (some .int), k_Txt_actAt)
abbrev n_Txt_letterAt : Nat := 56
def q_Txt_letterAt : mM := (⟨"ZigzagPieces$Text", "letterAt", "(I)I"⟩, prog_8_method_6_code, 2, (some .int), k_Txt_letterAt)
abbrev n_Z_write : Nat := 57
def q_Z_write : mM := (⟨"ZigzagPieces", "write", "(I)I"⟩, prog_1_method_2_code, 2, (some .int), k_Z_write)
abbrev n_Z_wipe : Nat := 58
def q_Z_wipe : mM := (⟨"ZigzagPieces", "wipe", "()I"⟩, prog_1_method_3_code, 2, (some .int), k_Z_wipe)
abbrev n_Z_fault : Nat := 59
def q_Z_fault : mM := (⟨"ZigzagPieces", "fault", "()I"⟩, prog_1_method_4_code, 1, (some .int), k_Z_fault)
abbrev n_Z_lay : Nat := 60
def q_Z_lay : mM := (⟨"ZigzagPieces", "lay", "()I"⟩, prog_1_method_5_code, 1, (some .int), k_Z_lay)
abbrev n_Z_act : Nat := 61
def q_Z_act : mM := (⟨"ZigzagPieces", "act", "(III)I"⟩, prog_1_method_6_code, 5, (some .int), k_Z_act)
abbrev n_Z_drop : Nat := 62
def q_Z_drop : mM := (⟨"ZigzagPieces", "drop", "()I"⟩, prog_1_method_7_code, 1, (some .int), k_Z_drop)
abbrev n_Z_exchange : Nat := 63
def q_Z_exchange : mM := (⟨"ZigzagPieces", "exchange", "(I)I"⟩, prog_1_method_8_code, 3, (some .int), k_Z_exchange)
abbrev n_Z_backwards : Nat := 64
def q_Z_backwards : mM := (⟨"ZigzagPieces", "backwards", "()I"⟩, prog_1_method_9_code, 2, (some .int), k_Z_backwards)
abbrev n_Z_clear : Nat := 65
def q_Z_clear : mM := (⟨"ZigzagPieces", "clear", "()I"⟩, prog_1_method_10_code, 2, (some .int), k_Z_clear)
abbrev n_Z_undo : Nat := 66
def q_Z_undo : mM := (⟨"ZigzagPieces", "undo", "()I"⟩, prog_1_method_11_code, 2, (some .int), k_Z_undo)
abbrev n_Z_spelt : Nat := 67
def q_Z_spelt : mM := (⟨"ZigzagPieces", "spelt", "(I)I"⟩, prog_1_method_12_code, 6, (some .int), k_Z_spelt)
abbrev n_Z_told : Nat := 68
def q_Z_told : mM := (⟨"ZigzagPieces", "told", "(II)I"⟩, prog_1_method_13_code, 4, (some .int), k_Z_told)
abbrev n_Z_graph : Nat := 69
def q_Z_graph : mM := (⟨"ZigzagPieces", "graph", "(II)I"⟩, prog_1_method_14_code, 3, (some .int), k_Z_graph)
abbrev n_Z_piece : Nat := 70
def q_Z_piece : mM := (⟨"ZigzagPieces", "piece", "(II)I"⟩, prog_1_method_15_code, 3, (some .int), k_Z_piece)
abbrev n_Z_root : Nat := 71
def q_Z_root : mM := (⟨"ZigzagPieces", "root", "(I)I"⟩, prog_1_method_16_code, 2, (some .int), k_Z_root)
abbrev n_Z_kin : Nat := 72
def q_Z_kin : mM := (⟨"ZigzagPieces", "kin", "(II)I"⟩, prog_1_method_17_code, 4, (some .int), k_Z_kin)
abbrev n_Z_bar : Nat := 73
def q_Z_bar : mM := (⟨"ZigzagPieces", "bar", "(II)I"⟩, prog_1_method_18_code, 3, (some .int), k_Z_bar)
abbrev n_Z_lasting : Nat := 74
def q_Z_lasting : mM := (⟨"ZigzagPieces", "lasting", "(II)I"⟩, prog_1_method_19_code, 3, (some .int), k_Z_lasting)
abbrev n_Z_longer : Nat := 75
def q_Z_longer : mM := (⟨"ZigzagPieces", "longer", "(I)I"⟩, prog_1_method_20_code, 2, (some .int), k_Z_longer)
abbrev n_Z_steadiest : Nat := 76
def q_Z_steadiest : mM := (⟨"ZigzagPieces", "steadiest", "(I)I"⟩, prog_1_method_21_code, 6, (some .int), k_Z_steadiest)
abbrev n_Z_keep : Nat := 77
def q_Z_keep : mM := (⟨"ZigzagPieces", "keep", "()I"⟩, prog_1_method_22_code, 1, (some .int), k_Z_keep)
abbrev n_Z_other : Nat := 78
def q_Z_other : mM := (⟨"ZigzagPieces", "other", "()I"⟩, prog_1_method_23_code, 2, (some .int), k_Z_other)
abbrev n_Z_back : Nat := 79
def q_Z_back : mM := (⟨"ZigzagPieces", "back", "()I"⟩, prog_1_method_24_code, 2, (some .int), k_Z_back)
abbrev n_Z_count : Nat := 80
def q_Z_count : mM := (⟨"ZigzagPieces", "count", "(I)I"⟩, prog_1_method_25_code, 2, (some .int), k_Z_count)
abbrev n_Z_readText : Nat := 81
def q_Z_readText : mM := (⟨"ZigzagPieces", "readText", "()I"⟩, prog_1_method_26_code, 5, (some .int), k_Z_readText)
abbrev n_Z_layTrial : Nat := 82
def q_Z_layTrial : mM := (⟨"ZigzagPieces", "layTrial", "()V"⟩, prog_1_method_27_code, 1, none, k_Z_layTrial)
abbrev n_Z_tellAnew : Nat := 83
def q_Z_tellAnew : mM := (⟨"ZigzagPieces", "tellAnew", "()V"⟩, prog_1_method_28_code, 1, none, k_Z_tellAnew)
abbrev n_Z_tryExchange : Nat := 84
def q_Z_tryExchange : mM := (⟨"ZigzagPieces", "tryExchange", "(I)Z"⟩, prog_1_method_29_code, 2, (some .boolean), k_Z_tryExchange)
abbrev n_Z_addEdgesGoing : Nat := 85
def q_Z_addEdgesGoing : mM := (⟨"ZigzagPieces", "addEdgesGoing", "()V"⟩, prog_1_method_30_code, 3, none, k_Z_addEdgesGoing)
abbrev n_Z_addPointsGoing : Nat := 86
def q_Z_addPointsGoing : mM := (⟨"ZigzagPieces", "addPointsGoing", "()V"⟩, prog_1_method_31_code, 2, none, k_Z_addPointsGoing)
abbrev n_Z_actOf : Nat := 87
def q_Z_actOf : mM := (⟨"ZigzagPieces", "actOf", "(III)I"⟩, prog_1_method_32_code, 4, (some .int), k_Z_actOf)
abbrev n_Z_kindOf : Nat := 88
def q_Z_kindOf : mM := (⟨"ZigzagPieces", "kindOf", "(I)I"⟩, prog_1_method_33_code, 1, (some .int), k_Z_kindOf)
abbrev n_Z_lowOf : Nat := 89
def q_Z_lowOf : mM := (⟨"ZigzagPieces", "lowOf", "(I)I"⟩, prog_1_method_34_code, 1, (some .int), k_Z_lowOf)
abbrev n_Z_highOf : Nat := 90
def q_Z_highOf : mM := (⟨"ZigzagPieces", "highOf", "(I)I"⟩, prog_1_method_35_code, 1, (some .int), k_Z_highOf)
abbrev n_Z_otherWay : Nat := 91
def q_Z_otherWay : mM := (⟨"ZigzagPieces", "otherWay", "(I)I"⟩, prog_1_method_36_code, 1, (some .int), k_Z_otherWay)
abbrev n_Z_isKind : Nat := 92
def q_Z_isKind : mM := (⟨"ZigzagPieces", "isKind", "(I)Z"⟩, prog_1_method_37_code, 1, (some .boolean), k_Z_isKind)
abbrev n_Z_isOfEdge : Nat := 93
def q_Z_isOfEdge : mM := (⟨"ZigzagPieces", "isOfEdge", "(I)Z"⟩, prog_1_method_38_code, 1, (some .boolean), k_Z_isOfEdge)
abbrev n_Z_itemLength : Nat := 94
def q_Z_itemLength : mM := (⟨"ZigzagPieces", "itemLength", "(I)I"⟩, prog_1_method_39_code, 1, (some .int), k_Z_itemLength)
abbrev n_Z_kindOfLetter : Nat := 95
def q_Z_kindOfLetter : mM := (⟨"ZigzagPieces", "kindOfLetter", "(I)I"⟩, prog_1_method_40_code, 1, (some .int), k_Z_kindOfLetter)
abbrev n_Z_letterOfKind : Nat := 96
def q_Z_letterOfKind : mM := (⟨"ZigzagPieces", "letterOfKind", "(I)I"⟩, prog_1_method_41_code, 1, (some .int), k_Z_letterOfKind)
abbrev n_Z_letterOf : Nat := 97
def q_Z_letterOf : mM := (⟨"ZigzagPieces", "letterOf", "(II)I"⟩, prog_1_method_42_code, 3, (some .int), k_Z_letterOf)
abbrev n_Z_isPoint : Nat := 98
def q_Z_isPoint : mM := (⟨"ZigzagPieces", "isPoint", "(I)Z"⟩, prog_1_method_43_code, 1, (some .boolean), k_Z_isPoint)
abbrev n_Z_isIn : Nat := 99
def q_Z_isIn : mM := (⟨"ZigzagPieces", "isIn", "(II)Z"⟩, prog_1_method_44_code, 2, (some .boolean), k_Z_isIn)
abbrev n_Z_lowestOf : Nat := 100
def q_Z_lowestOf : mM := (⟨"ZigzagPieces", "lowestOf", "(I)I"⟩, prog_1_method_45_code, 1, (some .int), k_Z_lowestOf)
abbrev n_M_in : Nat := 101
def q_M_in : mM := (⟨"ZigzagPiecesModel", "in", "(III)Z"⟩, prog_10_method_3_code, 3, (some .boolean), k_M_in)
abbrev n_M_codeOf : Nat := 102
def q_M_codeOf : mM := (⟨"ZigzagPiecesModel", "codeOf", "(III)I"⟩, prog_10_method_4_code, 3, (some .int), k_M_codeOf)
abbrev n_M_kindOf : Nat := 103
def q_M_kindOf : mM := (⟨"ZigzagPiecesModel", "kindOf", "(I)I"⟩, prog_10_method_5_code, 1, (some .int), k_M_kindOf)
abbrev n_M_oneOf : Nat := 104
def q_M_oneOf : mM := (⟨"ZigzagPiecesModel", "oneOf", "(I)I"⟩, prog_10_method_6_code, 1, (some .int), k_M_oneOf)
abbrev n_M_otherOf : Nat := 105
def q_M_otherOf : mM := (⟨"ZigzagPiecesModel", "otherOf", "(I)I"⟩, prog_10_method_7_code, 1, (some .int), k_M_otherOf)
abbrev n_M_has : Nat := 106
def q_M_has : mM := (⟨"ZigzagPiecesModel", "has", "(II)Z"⟩, prog_10_method_8_code, 2, (some .boolean), k_M_has)
abbrev n_M_may : Nat := 107
def q_M_may : mM := (⟨"ZigzagPiecesModel", "may", "(I)Z"⟩, prog_10_method_9_code, 4, (some .boolean), k_M_may)
abbrev n_M_reach : Nat := 108
def q_M_reach : mM := (⟨"ZigzagPiecesModel", "reach", "(I)I"⟩, prog_10_method_10_code, 5, (some .int), k_M_reach)
abbrev n_M_freePiece : Nat := 109
def q_M_freePiece : mM := (⟨"ZigzagPiecesModel", "freePiece", "()I"⟩, prog_10_method_11_code, 2, (some .int), k_M_freePiece)
abbrev n_M_kinOf : Nat := 110
def q_M_kinOf : mM := (⟨"ZigzagPiecesModel", "kinOf", "(II)I"⟩, prog_10_method_12_code, 3, (some .int), k_M_kinOf)
abbrev n_M_makesKin : Nat := 111
def q_M_makesKin : mM := (⟨"ZigzagPiecesModel", "makesKin", "(III)V"⟩, prog_10_method_13_code, 4, none, k_M_makesKin)
abbrev n_M_ends : Nat := 112
def q_M_ends : mM := (⟨"ZigzagPiecesModel", "ends", "(II)V"⟩, prog_10_method_14_code, 3, none, k_M_ends)
abbrev n_M_goes : Nat := 113
def q_M_goes : mM := (⟨"ZigzagPiecesModel", "goes", "(II)V"⟩, prog_10_method_15_code, 5, none, k_M_goes)
abbrev n_M_comes : Nat := 114
def q_M_comes : mM := (⟨"ZigzagPiecesModel", "comes", "(II)V"⟩, prog_10_method_16_code, 5, none, k_M_comes)
abbrev n_M_parts : Nat := 115
def q_M_parts : mM := (⟨"ZigzagPiecesModel", "parts", "(III)V"⟩, prog_10_method_17_code, 8, none, k_M_parts)
abbrev n_M_bindsNear : Nat := 116
def q_M_bindsNear : mM := (⟨"ZigzagPiecesModel", "bindsNear", "(III)V"⟩, prog_10_method_18_code, 7, none, k_M_bindsNear)
abbrev n_M_joins : Nat := 117
def q_M_joins : mM := (⟨"ZigzagPiecesModel", "joins", "(III)V"⟩, prog_10_method_19_code, 11, none, k_M_joins)
abbrev n_M_does : Nat := 118
def q_M_does : mM := (⟨"ZigzagPiecesModel", "does", "(II)V"⟩, prog_10_method_20_code, 5, none, k_M_does)
abbrev n_M_begins : Nat := 119
def q_M_begins : mM := (⟨"ZigzagPiecesModel", "begins", "()V"⟩, prog_10_method_21_code, 2, none, k_M_begins)
abbrev n_M_runs : Nat := 120
def q_M_runs : mM := (⟨"ZigzagPiecesModel", "runs", "(I)Z"⟩, prog_10_method_22_code, 3, (some .boolean), k_M_runs)
abbrev n_M_lowestOf : Nat := 121
def q_M_lowestOf : mM := (⟨"ZigzagPiecesModel", "lowestOf", "(I)I"⟩, prog_10_method_23_code, 3, (some .int), k_M_lowestOf)
abbrev n_M_runsAll : Nat := 122
def q_M_runsAll : mM := (⟨"ZigzagPiecesModel", "runsAll", "()Z"⟩, prog_10_method_24_code, 5, (some .boolean), k_M_runsAll)
abbrev n_M_lengthOf : Nat := 123
def q_M_lengthOf : mM := (⟨"ZigzagPiecesModel", "lengthOf", "(I)I"⟩, prog_10_method_25_code, 2, (some .int), k_M_lengthOf)
abbrev n_M_bits : Nat := 124
def q_M_bits : mM := (⟨"ZigzagPiecesModel", "bits", "(I)I"⟩, prog_10_method_26_code, 3, (some .int), k_M_bits)
abbrev n_M_edges : Nat := 125
def q_M_edges : mM := (⟨"ZigzagPiecesModel", "edges", "()I"⟩, prog_10_method_27_code, 3, (some .int), k_M_edges)
abbrev n_M_write : Nat := 126
def q_M_write : mM := (⟨"ZigzagPiecesModel", "write", "(I)I"⟩, prog_10_method_28_code, 2, (some .int), k_M_write)
abbrev n_M_wipe : Nat := 127
def q_M_wipe : mM := (⟨"ZigzagPiecesModel", "wipe", "()I"⟩, prog_10_method_29_code, 2, (some .int), k_M_wipe)
abbrev n_M_figureAt : Nat := 128
def q_M_figureAt : mM := (⟨"ZigzagPiecesModel", "figureAt", "(I)I"⟩, prog_10_method_30_code, 2, (some .int), k_M_figureAt)
abbrev n_M_item : Nat := 129
def q_M_item : mM := (⟨"ZigzagPiecesModel", "item", "()I"⟩, prog_10_method_31_code, 6, (some .int), k_M_item)
abbrev n_M_reads : Nat := 130
def q_M_reads : mM := (⟨"ZigzagPiecesModel", "reads", "()I"⟩, prog_10_method_32_code, 3, (some .int), k_M_reads)
abbrev n_M_fault : Nat := 131
def q_M_fault : mM := (⟨"ZigzagPiecesModel", "fault", "()I"⟩, prog_10_method_33_code, 1, (some .int), k_M_fault)
abbrev n_M_lay : Nat := 132
def q_M_lay : mM := (⟨"ZigzagPiecesModel", "lay", "()I"⟩, prog_10_method_34_code, 2, (some .int), k_M_lay)
abbrev n_M_notes : Nat := 133
def q_M_notes : mM := (⟨"ZigzagPiecesModel", "notes", "()V"⟩, prog_10_method_35_code, 2, none, k_M_notes)
abbrev n_M_act : Nat := 134
def q_M_act : mM := (⟨"ZigzagPiecesModel", "act", "(III)I"⟩, prog_10_method_36_code, 5, (some .int), k_M_act)
abbrev n_M_drop : Nat := 135
def q_M_drop : mM := (⟨"ZigzagPiecesModel", "drop", "()I"⟩, prog_10_method_37_code, 1, (some .int), k_M_drop)
abbrev n_M_sets : Nat := 136
def q_M_sets : mM := (⟨"ZigzagPiecesModel", "sets", "()V"⟩, prog_10_method_38_code, 2, none, k_M_sets)
abbrev n_M_others : Nat := 137
def q_M_others : mM := (⟨"ZigzagPiecesModel", "others", "()I"⟩, prog_10_method_39_code, 5, (some .int), k_M_others)
abbrev n_M_swaps : Nat := 138
def q_M_swaps : mM := (⟨"ZigzagPiecesModel", "swaps", "(I)V"⟩, prog_10_method_40_code, 3, none, k_M_swaps)
abbrev n_M_exchange : Nat := 139
def q_M_exchange : mM := (⟨"ZigzagPiecesModel", "exchange", "(I)I"⟩, prog_10_method_41_code, 3, (some .int), k_M_exchange)
abbrev n_M_backwards : Nat := 140
def q_M_backwards : mM := (⟨"ZigzagPiecesModel", "backwards", "()I"⟩, prog_10_method_42_code, 4, (some .int), k_M_backwards)
abbrev n_M_clear : Nat := 141
def q_M_clear : mM := (⟨"ZigzagPiecesModel", "clear", "()I"⟩, prog_10_method_43_code, 4, (some .int), k_M_clear)
abbrev n_M_undo : Nat := 142
def q_M_undo : mM := (⟨"ZigzagPiecesModel", "undo", "()I"⟩, prog_10_method_44_code, 2, (some .int), k_M_undo)
abbrev n_M_letterOf : Nat := 143
def q_M_letterOf : mM := (⟨"ZigzagPiecesModel", "letterOf", "(II)I"⟩, prog_10_method_45_code, 4, (some .int), k_M_letterOf)
abbrev n_M_spelt : Nat := 144
def q_M_spelt : mM := (⟨"ZigzagPiecesModel", "spelt", "(I)I"⟩, prog_10_method_46_code, 5, (some .int), k_M_spelt)
abbrev n_M_told : Nat := 145
def q_M_told : mM := (⟨"ZigzagPiecesModel", "told", "(II)I"⟩, prog_10_method_47_code, 4, (some .int), k_M_told)
abbrev n_M_graph : Nat := 146
def q_M_graph : mM := (⟨"ZigzagPiecesModel", "graph", "(II)I"⟩, prog_10_method_48_code, 4, (some .int), k_M_graph)
abbrev n_M_piece : Nat := 147
def q_M_piece : mM := (⟨"ZigzagPiecesModel", "piece", "(II)I"⟩, prog_10_method_49_code, 3, (some .int), k_M_piece)
abbrev n_M_root : Nat := 148
def q_M_root : mM := (⟨"ZigzagPiecesModel", "root", "(I)I"⟩, prog_10_method_50_code, 2, (some .int), k_M_root)
abbrev n_M_kin : Nat := 149
def q_M_kin : mM := (⟨"ZigzagPiecesModel", "kin", "(II)I"⟩, prog_10_method_51_code, 4, (some .int), k_M_kin)
abbrev n_M_open : Nat := 150
def q_M_open : mM := (⟨"ZigzagPiecesModel", "open", "()I"⟩, prog_10_method_52_code, 3, (some .int), k_M_open)
abbrev n_M_bar : Nat := 151
def q_M_bar : mM := (⟨"ZigzagPiecesModel", "bar", "(II)I"⟩, prog_10_method_53_code, 3, (some .int), k_M_bar)
abbrev n_M_lasting : Nat := 152
def q_M_lasting : mM := (⟨"ZigzagPiecesModel", "lasting", "(II)I"⟩, prog_10_method_54_code, 5, (some .int), k_M_lasting)
abbrev n_M_longer : Nat := 153
def q_M_longer : mM := (⟨"ZigzagPiecesModel", "longer", "(I)I"⟩, prog_10_method_55_code, 4, (some .int), k_M_longer)
abbrev n_M_longest : Nat := 154
def q_M_longest : mM := (⟨"ZigzagPiecesModel", "longest", "()I"⟩, prog_10_method_56_code, 3, (some .int), k_M_longest)
abbrev n_M_steadiest : Nat := 155
def q_M_steadiest : mM := (⟨"ZigzagPiecesModel", "steadiest", "(I)I"⟩, prog_10_method_57_code, 6, (some .int), k_M_steadiest)
abbrev n_M_keep : Nat := 156
def q_M_keep : mM := (⟨"ZigzagPiecesModel", "keep", "()I"⟩, prog_10_method_58_code, 2, (some .int), k_M_keep)
abbrev n_M_turnsOver : Nat := 157
def q_M_turnsOver : mM := (⟨"ZigzagPiecesModel", "turnsOver", "()V"⟩, prog_10_method_59_code, 3, none, k_M_turnsOver)
abbrev n_M_other : Nat := 158
def q_M_other : mM := (⟨"ZigzagPiecesModel", "other", "()I"⟩, prog_10_method_60_code, 2, (some .int), k_M_other)
abbrev n_M_back : Nat := 159
def q_M_back : mM := (⟨"ZigzagPiecesModel", "back", "()I"⟩, prog_10_method_61_code, 1, (some .int), k_M_back)
abbrev n_M_count : Nat := 160
def q_M_count : mM := (⟨"ZigzagPiecesModel", "count", "(I)I"⟩, prog_10_method_62_code, 2, (some .int), k_M_count)
abbrev n_Int_compare : Nat := 161
def q_Int_compare : mM := (⟨"java/lang/Integer", "compare", "(II)I"⟩, prog_11_method_40_code, 2, (some .int), k_Int_compare)
abbrev n_Int_numberOfTrailingZeros : Nat := 162
def q_Int_numberOfTrailingZeros : mM := (⟨"java/lang/Integer", "numberOfTrailingZeros", "(I)I"⟩, prog_11_method_48_code, 2, (some .int), k_Int_numberOfTrailingZeros)
abbrev n_Int_bitCount : Nat := 163
def q_Int_bitCount : mM := (⟨"java/lang/Integer", "bitCount", "(I)I"⟩, prog_11_method_49_code, 1, (some .int), k_Int_bitCount)
abbrev n_Arr_fill : Nat := 164
def q_Arr_fill : mM := (⟨"java/util/Arrays", "fill", "([II)V"⟩, prog_16_method_103_code, 4, none, k_Arr_fill)
def mprog : List mM := [q_Bars_empty, q_Bars_size, q_Bars_open, q_Bars_add, q_Bars_beginOf, q_Bars_endOf, q_Bars_lengthOf, q_Bars_longest, q_Bars_atLeast, q_Bars_spanning, q_Bars_withoutPartnerIn, q_Bars_lastOf, q_Bars_compare, q_Kin_empty, q_Kin_rootOf, q_Kin_sinceOf, q_Kin_come, q_Kin_go, q_Kin_part, q_Kin_beginOfGoing, q_Kin_beginOfJoining, q_Kin_join, q_Kin_lowerRoots, q_Kin_setSinceOfAll, q_Kin_setSince, q_Net_empty, q_Net_points, q_Net_edges, q_Net_has, q_Net_joined, q_Net_canDo, q_Net_change, q_Net_pieceOf, q_Net_pieces, q_Net_loops, q_Net_nearOf, q_Row_size, q_Row_empty, q_Row_add, q_Row_removeLast, q_Row_actAt, q_Row_swapWithNext, q_Row_copy, q_Shf_size, q_Shf_empty, q_Shf_put, q_Shf_last, q_Shf_removeLast, q_Shf_loseOldest, q_Sto_play, q_Sto_step, q_Sto_addOpenBars, q_Txt_length, q_Txt_empty, q_Txt_add, q_Txt_actAt, q_Txt_letterAt, q_Z_write, q_Z_wipe, q_Z_fault, q_Z_lay, q_Z_act, q_Z_drop, q_Z_exchange, q_Z_backwards, q_Z_clear, q_Z_undo, q_Z_spelt, q_Z_told, q_Z_graph, q_Z_piece, q_Z_root, q_Z_kin, q_Z_bar, q_Z_lasting, q_Z_longer, q_Z_steadiest, q_Z_keep, q_Z_other, q_Z_back, q_Z_count, q_Z_readText, q_Z_layTrial, q_Z_tellAnew, q_Z_tryExchange, q_Z_addEdgesGoing, q_Z_addPointsGoing, q_Z_actOf, q_Z_kindOf, q_Z_lowOf, q_Z_highOf, q_Z_otherWay, q_Z_isKind, q_Z_isOfEdge, q_Z_itemLength, q_Z_kindOfLetter, q_Z_letterOfKind, q_Z_letterOf, q_Z_isPoint, q_Z_isIn, q_Z_lowestOf, q_M_in, q_M_codeOf, q_M_kindOf, q_M_oneOf, q_M_otherOf, q_M_has, q_M_may, q_M_reach, q_M_freePiece, q_M_kinOf, q_M_makesKin, q_M_ends, q_M_goes, q_M_comes, q_M_parts, q_M_bindsNear, q_M_joins, q_M_does, q_M_begins, q_M_runs, q_M_lowestOf, q_M_runsAll, q_M_lengthOf, q_M_bits, q_M_edges, q_M_write, q_M_wipe, q_M_figureAt, q_M_item, q_M_reads, q_M_fault, q_M_lay, q_M_notes, q_M_act, q_M_drop, q_M_sets, q_M_others, q_M_swaps, q_M_exchange, q_M_backwards, q_M_clear, q_M_undo, q_M_letterOf, q_M_spelt, q_M_told, q_M_graph, q_M_piece, q_M_root, q_M_kin, q_M_open, q_M_bar, q_M_lasting, q_M_longer, q_M_longest, q_M_steadiest, q_M_keep, q_M_turnsOver, q_M_other, q_M_back, q_M_count, q_Int_compare, q_Int_numberOfTrailingZeros, q_Int_bitCount, q_Arr_fill]
end
section
/-! each entry is what decode gives, each link stands in the tables -/
def ilB (i : Instr) (len : Nat) : Bool := match i with
  | .tableswitch _ _ _ _ => true
  | .lookupswitch _ _ => true
  | .bipush _ => Nat.beq len 2
  | .iload _ => Nat.beq len 2
  | .aload _ => Nat.beq len 2
  | .istore _ => Nat.beq len 2
  | .astore _ => Nat.beq len 2
  | .ldc_w _ => Nat.beq len 3
  | .sipush _ => Nat.beq len 3
  | .iinc _ _ => Nat.beq len 3
  | .getfield _ => Nat.beq len 3
  | .putfield _ => Nat.beq len 3
  | .goto _ => Nat.beq len 3
  | .ifCond _ _ => Nat.beq len 3
  | .if_icmp _ _ => Nat.beq len 3
  | .ifnull _ => Nat.beq len 3
  | .ifnonnull _ => Nat.beq len 3
  | .invokestatic _ => Nat.beq len 3
  | .invokevirtual _ => Nat.beq len 3
  | _ => Nat.beq len 1
theorem ilB_ok {i : Instr} {len : Nat} (h : ilB i len = true) : ilOK i len := by
  cases i <;> first | exact trivial | exact Nat.eq_of_beq_eq_true h
def mown (o : Nat) : String := ([RX0, RX1, RX2, RX3, RX4, RX5, RX6, RX7, RX8, "java/lang/Integer", "java/lang/Math", "java/util/Arrays"] : List String).getD o ""

def mLF : List (Nat × Nat × Nat × Nat) := [(0, 9, 0, 0), (0, 15, 0, 1), (0, 18, 0, 2), (0, 22, 0, 3), (1, 9, 1, 0), (1, 15, 1, 1), (1, 18, 1, 2), (1, 21, 1, 3), (2, 9, 2, 0), (2, 21, 2, 1), (2, 25, 2, 2), (3, 9, 3, 0), (3, 15, 3, 1), (4, 15, 4, 0), (4, 22, 4, 1), (5, 12, 5, 0), (5, 21, 5, 1), (5, 28, 5, 2), (6, 9, 6, 0), (6, 15, 6, 1), (7, 10, 7, 0), (7, 19, 7, 1), (7, 23, 7, 2), (7, 31, 7, 3), (7, 35, 7, 4), (7, 41, 7, 5), (7, 45, 7, 6), (7, 90, 5, 0), (7, 113, 5, 2), (7, 192, 5, 1), (8, 7, 8, 1), (8, 13, 8, 3), (8, 17, 8, 4), (8, 20, 8, 6), (8, 23, 8, 9), (8, 26, 8, 10), (8, 29, 8, 12), (8, 32, 8, 13), (8, 35, 8, 14), (8, 38, 8, 15), (8, 41, 8, 17), (8, 44, 8, 19), (8, 47, 8, 20), (8, 64, 8, 8), (8, 71, 8, 11), (8, 74, 8, 16), (8, 134, 8, 2), (8, 137, 8, 18), (8, 153, 8, 5), (8, 159, 8, 21), (8, 191, 8, 7)]
def mLP : List (Nat × Nat × Nat × Nat) := [(0, 18, 0, 2), (0, 22, 0, 3), (2, 21, 2, 1), (2, 25, 2, 2), (3, 15, 3, 1), (4, 22, 4, 1), (6, 15, 6, 1), (8, 50, 8, 0), (8, 64, 8, 8), (8, 71, 8, 11), (8, 74, 8, 16), (8, 134, 8, 2), (8, 137, 8, 18), (8, 153, 8, 5), (8, 159, 8, 21), (8, 191, 8, 7)]
def mLS : List (Nat × Nat × Nat × Nat × Nat) := [(0, 40, 0, 2, 1), (0, 48, 161, 2, 0), (1, 24, 164, 2, 0), (1, 30, 98, 1, 0), (1, 38, 99, 2, 0), (1, 49, 0, 2, 1), (1, 58, 0, 2, 2), (2, 15, 164, 2, 0), (2, 28, 98, 1, 0), (2, 32, 99, 2, 0), (2, 40, 89, 1, 0), (2, 43, 90, 1, 0), (2, 46, 88, 1, 0), (2, 55, 93, 1, 0), (2, 58, 100, 1, 0), (2, 64, 163, 1, 0), (5, 54, 89, 1, 0), (5, 57, 90, 1, 0), (5, 63, 99, 2, 0), (5, 71, 88, 1, 0), (6, 23, 95, 1, 0), (6, 26, 92, 1, 0), (6, 30, 93, 1, 0), (6, 33, 94, 1, 0), (6, 36, 98, 1, 0), (6, 39, 87, 3, 0), (7, 76, 92, 1, 0), (7, 80, 98, 1, 0), (7, 83, 93, 1, 0), (7, 86, 87, 3, 0), (7, 134, 91, 1, 0), (7, 140, 163, 1, 0), (7, 157, 88, 1, 0), (7, 160, 94, 1, 0), (7, 163, 97, 2, 0), (7, 167, 89, 1, 0), (7, 170, 90, 1, 0), (7, 189, 100, 1, 0), (7, 201, 99, 2, 0), (7, 242, 0, 2, 2), (7, 247, 0, 2, 1), (7, 250, 96, 1, 0), (7, 253, 162, 1, 0), (8, 54, 104, 1, 0), (8, 58, 105, 1, 0), (8, 61, 103, 1, 0), (8, 67, 106, 2, 0), (8, 127, 124, 1, 0), (8, 130, 101, 3, 0), (8, 143, 102, 3, 0)]
def mLV : List (Nat × Nat × Nat × Nat × Nat) := [(0, 25, 12, 4, 0), (0, 29, 11, 3, 0), (0, 33, 4, 2, 0), (0, 37, 6, 3, 0), (0, 45, 5, 2, 0), (1, 34, 24, 4, 1), (1, 42, 23, 4, 1), (1, 45, 15, 3, 1), (1, 54, 14, 2, 1), (1, 61, 22, 3, 1), (2, 36, 35, 2, 2), (2, 49, 28, 2, 2), (2, 52, 29, 3, 2), (2, 61, 32, 2, 2), (2, 69, 33, 1, 2), (3, 19, 37, 1, 3), (3, 22, 40, 2, 3), (3, 26, 38, 2, 3), (4, 26, 48, 1, 4), (4, 29, 46, 1, 4), (4, 33, 42, 2, 3), (5, 32, 25, 1, 2), (5, 35, 13, 1, 1), (5, 36, 0, 1, 0), (5, 37, 40, 2, 3), (5, 43, 30, 2, 2), (5, 47, 50, 3, 5), (5, 51, 51, 1, 5), (5, 60, 32, 2, 2), (5, 67, 31, 2, 2), (5, 74, 16, 3, 1), (5, 77, 26, 1, 2), (5, 81, 19, 3, 1), (5, 85, 3, 3, 0), (5, 88, 17, 2, 1), (5, 91, 20, 3, 1), (5, 94, 21, 4, 1), (5, 98, 18, 4, 1), (6, 19, 56, 2, 6), (7, 60, 54, 2, 6), (7, 63, 81, 1, 7), (7, 66, 82, 1, 7), (7, 69, 53, 1, 6), (7, 72, 52, 1, 6), (7, 73, 36, 1, 3), (7, 94, 30, 2, 2), (7, 99, 45, 2, 4), (7, 103, 38, 2, 3), (7, 104, 83, 1, 7), (7, 107, 39, 1, 3), (7, 110, 84, 2, 7), (7, 117, 10, 2, 0), (7, 123, 42, 2, 3), (7, 126, 26, 1, 2), (7, 129, 37, 1, 3), (7, 130, 40, 2, 3), (7, 137, 27, 1, 2), (7, 145, 85, 1, 7), (7, 148, 86, 1, 7), (7, 151, 46, 1, 4), (7, 155, 47, 1, 4), (7, 156, 43, 1, 4), (7, 173, 49, 3, 5), (7, 177, 33, 1, 2), (7, 180, 34, 1, 2), (7, 183, 28, 2, 2), (7, 186, 32, 2, 2), (7, 196, 14, 2, 1), (7, 205, 15, 3, 1), (7, 208, 1, 1, 0), (7, 209, 2, 1, 0), (7, 212, 4, 2, 0), (7, 215, 5, 2, 0), (7, 218, 6, 3, 0), (7, 221, 9, 4, 0), (7, 224, 8, 3, 0), (7, 227, 7, 2, 0), (7, 230, 44, 1, 4), (7, 231, 25, 1, 2), (7, 232, 55, 2, 6), (7, 233, 31, 2, 2), (7, 236, 41, 2, 3), (7, 239, 29, 3, 2), (8, 77, 110, 3, 8), (8, 81, 112, 3, 8), (8, 85, 109, 1, 8), (8, 89, 111, 4, 8), (8, 93, 108, 2, 8), (8, 96, 116, 4, 8), (8, 99, 114, 3, 8), (8, 102, 113, 3, 8), (8, 105, 117, 4, 8), (8, 108, 115, 4, 8), (8, 111, 119, 1, 8), (8, 114, 107, 2, 8), (8, 118, 118, 3, 8), (8, 121, 120, 2, 8), (8, 124, 121, 2, 8), (8, 140, 128, 2, 8), (8, 147, 129, 1, 8), (8, 150, 130, 1, 8), (8, 156, 133, 1, 8), (8, 162, 122, 1, 8), (8, 166, 136, 1, 8), (8, 169, 138, 2, 8), (8, 173, 137, 1, 8), (8, 176, 125, 1, 8), (8, 179, 143, 3, 8), (8, 182, 150, 1, 8), (8, 185, 123, 2, 8), (8, 188, 154, 1, 8), (8, 194, 157, 1, 8)]
def mLC : List (Nat × Nat × Nat) := [(9, 264, 65536), (9, 265, 1431655765), (9, 266, 858993459), (9, 267, 252645135)]
def lkB (o : Nat) (pc : Nat) (e : mE) : Bool := match e.1 with
  | .getfield idx => decide ((o, idx, e.2.2.1, e.2.2.2.1) ∈ mLF)
  | .putfield idx => decide ((o, idx, e.2.2.1, e.2.2.2.1) ∈ mLP)
  | .invokestatic idx => decide ((o, idx, e.2.2.1, e.2.2.2.1, e.2.2.2.2) ∈ mLS)
  | .invokevirtual idx => decide ((o, idx, e.2.2.1, e.2.2.2.1, e.2.2.2.2) ∈ mLV)
  | .ldc_w idx => decide ((o, idx, e.2.2.1) ∈ mLC)
  | .goto f => decide ((pc : Int) + f = (e.2.2.1 : Int))
  | .ifCond _ f => decide ((pc : Int) + f = (e.2.2.1 : Int))
  | .if_icmp _ f => decide ((pc : Int) + f = (e.2.2.1 : Int))
  | .ifnull f => decide ((pc : Int) + f = (e.2.2.1 : Int))
  | .ifnonnull f => decide ((pc : Int) + f = (e.2.2.1 : Int))
  | .tableswitch d lo hi offs => decide (0 ≤ (pc : Int) + d ∧ hi - lo + 1 = (offs.size : Int) ∧ ∀ f ∈ offs.toList, 0 ≤ (pc : Int) + f)
  | .lookupswitch d ps => decide (0 ≤ (pc : Int) + d ∧ (ps.toList.zip (ps.toList.drop 1)).all (fun (a, next) => a.1 < next.1) = true ∧ ∀ q ∈ ps.toList, 0 ≤ (pc : Int) + q.2)
  | _ => true
def chkB (b : ByteArray) (o : Nat) (q : Nat × mE) : Bool := (match decode b q.1 with
  | .ok (i, len) => decide (i = q.2.1) && Nat.beq q.2.2.1 (q.1 + len) && ilB i len
  | .error _ => false) && lkB o q.1 q.2
set_option maxRecDepth 20000 in
theorem mLF_ok_0 : FOK (mown 0) 9 0 0 := ⟨RX0, TX0, 4, rfl, by decide, Or.inl (Tb_at 163 rfl rfl)⟩
set_option maxRecDepth 20000 in
theorem mLF_ok_1 : FOK (mown 0) 15 0 1 := ⟨RX0, TX0, 4, rfl, by decide, Or.inl (Tb_at 164 rfl rfl)⟩
set_option maxRecDepth 20000 in
theorem mLF_ok_2 : FOK (mown 0) 18 0 2 := ⟨RX0, TX0, 4, rfl, by decide, Or.inl (Tb_at 165 rfl rfl)⟩
set_option maxRecDepth 20000 in
theorem mLF_ok_3 : FOK (mown 0) 22 0 3 := ⟨RX0, TX0, 4, rfl, by decide, Or.inl (Tb_at 166 rfl rfl)⟩
set_option maxRecDepth 20000 in
theorem mLF_ok_4 : FOK (mown 1) 9 1 0 := ⟨RX1, TX1, 4, rfl, by decide, Or.inl (Tb_at 144 rfl rfl)⟩
set_option maxRecDepth 20000 in
theorem mLF_ok_5 : FOK (mown 1) 15 1 1 := ⟨RX1, TX1, 4, rfl, by decide, Or.inl (Tb_at 145 rfl rfl)⟩
set_option maxRecDepth 20000 in
theorem mLF_ok_6 : FOK (mown 1) 18 1 2 := ⟨RX1, TX1, 4, rfl, by decide, Or.inl (Tb_at 146 rfl rfl)⟩
set_option maxRecDepth 20000 in
theorem mLF_ok_7 : FOK (mown 1) 21 1 3 := ⟨RX1, TX1, 4, rfl, by decide, Or.inl (Tb_at 147 rfl rfl)⟩
set_option maxRecDepth 20000 in
theorem mLF_ok_8 : FOK (mown 2) 9 2 0 := ⟨RX2, TX2, 3, rfl, by decide, Or.inl (Tb_at 128 rfl rfl)⟩
set_option maxRecDepth 20000 in
theorem mLF_ok_9 : FOK (mown 2) 21 2 1 := ⟨RX2, TX2, 3, rfl, by decide, Or.inl (Tb_at 129 rfl rfl)⟩
set_option maxRecDepth 20000 in
theorem mLF_ok_10 : FOK (mown 2) 25 2 2 := ⟨RX2, TX2, 3, rfl, by decide, Or.inl (Tb_at 130 rfl rfl)⟩
set_option maxRecDepth 20000 in
theorem mLF_ok_11 : FOK (mown 3) 9 3 0 := ⟨RX3, TX3, 2, rfl, by decide, Or.inl (Tb_at 90 rfl rfl)⟩
set_option maxRecDepth 20000 in
theorem mLF_ok_12 : FOK (mown 3) 15 3 1 := ⟨RX3, TX3, 2, rfl, by decide, Or.inl (Tb_at 91 rfl rfl)⟩
set_option maxRecDepth 20000 in
theorem mLF_ok_13 : FOK (mown 4) 15 4 0 := ⟨RX4, TX4, 2, rfl, by decide, Or.inl (Tb_at 109 rfl rfl)⟩
set_option maxRecDepth 20000 in
theorem mLF_ok_14 : FOK (mown 4) 22 4 1 := ⟨RX4, TX4, 2, rfl, by decide, Or.inl (Tb_at 110 rfl rfl)⟩
set_option maxRecDepth 20000 in
theorem mLF_ok_15 : FOK (mown 5) 12 5 0 := ⟨RX5, TX5, 3, rfl, by decide, Or.inl (Tb_at 176 rfl rfl)⟩
set_option maxRecDepth 20000 in
theorem mLF_ok_16 : FOK (mown 5) 21 5 1 := ⟨RX5, TX5, 3, rfl, by decide, Or.inl (Tb_at 178 rfl rfl)⟩
set_option maxRecDepth 20000 in
theorem mLF_ok_17 : FOK (mown 5) 28 5 2 := ⟨RX5, TX5, 3, rfl, by decide, Or.inl (Tb_at 180 rfl rfl)⟩
set_option maxRecDepth 20000 in
theorem mLF_ok_18 : FOK (mown 6) 9 6 0 := ⟨RX6, TX6, 2, rfl, by decide, Or.inl (Tb_at 76 rfl rfl)⟩
set_option maxRecDepth 20000 in
theorem mLF_ok_19 : FOK (mown 6) 15 6 1 := ⟨RX6, TX6, 2, rfl, by decide, Or.inl (Tb_at 77 rfl rfl)⟩
set_option maxRecDepth 20000 in
theorem mLF_ok_20 : FOK (mown 7) 10 7 0 := ⟨RX7, TX7, 7, rfl, by decide, Or.inl (Tb_at 473 rfl rfl)⟩
set_option maxRecDepth 20000 in
theorem mLF_ok_21 : FOK (mown 7) 19 7 1 := ⟨RX7, TX7, 7, rfl, by decide, Or.inl (Tb_at 474 rfl rfl)⟩
set_option maxRecDepth 20000 in
theorem mLF_ok_22 : FOK (mown 7) 23 7 2 := ⟨RX7, TX7, 7, rfl, by decide, Or.inl (Tb_at 475 rfl rfl)⟩
set_option maxRecDepth 20000 in
theorem mLF_ok_23 : FOK (mown 7) 31 7 3 := ⟨RX7, TX7, 7, rfl, by decide, Or.inl (Tb_at 476 rfl rfl)⟩
set_option maxRecDepth 20000 in
theorem mLF_ok_24 : FOK (mown 7) 35 7 4 := ⟨RX7, TX7, 7, rfl, by decide, Or.inl (Tb_at 477 rfl rfl)⟩
set_option maxRecDepth 20000 in
theorem mLF_ok_25 : FOK (mown 7) 41 7 5 := ⟨RX7, TX7, 7, rfl, by decide, Or.inl (Tb_at 478 rfl rfl)⟩
set_option maxRecDepth 20000 in
theorem mLF_ok_26 : FOK (mown 7) 45 7 6 := ⟨RX7, TX7, 7, rfl, by decide, Or.inl (Tb_at 479 rfl rfl)⟩
set_option maxRecDepth 20000 in
theorem mLF_ok_27 : FOK (mown 7) 90 5 0 := ⟨RX5, TX5, 3, rfl, by decide, Or.inr ⟨"ZigzagPieces", Nb_at 177 rfl rfl⟩⟩
set_option maxRecDepth 20000 in
theorem mLF_ok_28 : FOK (mown 7) 113 5 2 := ⟨RX5, TX5, 3, rfl, by decide, Or.inr ⟨"ZigzagPieces", Nb_at 181 rfl rfl⟩⟩
set_option maxRecDepth 20000 in
theorem mLF_ok_29 : FOK (mown 7) 192 5 1 := ⟨RX5, TX5, 3, rfl, by decide, Or.inr ⟨"ZigzagPieces", Nb_at 179 rfl rfl⟩⟩
set_option maxRecDepth 20000 in
theorem mLF_ok_30 : FOK (mown 8) 7 8 1 := ⟨RX8, TX8, 22, rfl, by decide, Or.inl (Tb_at 721 rfl rfl)⟩
set_option maxRecDepth 20000 in
theorem mLF_ok_31 : FOK (mown 8) 13 8 3 := ⟨RX8, TX8, 22, rfl, by decide, Or.inl (Tb_at 723 rfl rfl)⟩
set_option maxRecDepth 20000 in
theorem mLF_ok_32 : FOK (mown 8) 17 8 4 := ⟨RX8, TX8, 22, rfl, by decide, Or.inl (Tb_at 724 rfl rfl)⟩
set_option maxRecDepth 20000 in
theorem mLF_ok_33 : FOK (mown 8) 20 8 6 := ⟨RX8, TX8, 22, rfl, by decide, Or.inl (Tb_at 726 rfl rfl)⟩
set_option maxRecDepth 20000 in
theorem mLF_ok_34 : FOK (mown 8) 23 8 9 := ⟨RX8, TX8, 22, rfl, by decide, Or.inl (Tb_at 729 rfl rfl)⟩
set_option maxRecDepth 20000 in
theorem mLF_ok_35 : FOK (mown 8) 26 8 10 := ⟨RX8, TX8, 22, rfl, by decide, Or.inl (Tb_at 730 rfl rfl)⟩
set_option maxRecDepth 20000 in
theorem mLF_ok_36 : FOK (mown 8) 29 8 12 := ⟨RX8, TX8, 22, rfl, by decide, Or.inl (Tb_at 732 rfl rfl)⟩
set_option maxRecDepth 20000 in
theorem mLF_ok_37 : FOK (mown 8) 32 8 13 := ⟨RX8, TX8, 22, rfl, by decide, Or.inl (Tb_at 733 rfl rfl)⟩
set_option maxRecDepth 20000 in
theorem mLF_ok_38 : FOK (mown 8) 35 8 14 := ⟨RX8, TX8, 22, rfl, by decide, Or.inl (Tb_at 734 rfl rfl)⟩
set_option maxRecDepth 20000 in
theorem mLF_ok_39 : FOK (mown 8) 38 8 15 := ⟨RX8, TX8, 22, rfl, by decide, Or.inl (Tb_at 735 rfl rfl)⟩
set_option maxRecDepth 20000 in
theorem mLF_ok_40 : FOK (mown 8) 41 8 17 := ⟨RX8, TX8, 22, rfl, by decide, Or.inl (Tb_at 737 rfl rfl)⟩
set_option maxRecDepth 20000 in
theorem mLF_ok_41 : FOK (mown 8) 44 8 19 := ⟨RX8, TX8, 22, rfl, by decide, Or.inl (Tb_at 739 rfl rfl)⟩
set_option maxRecDepth 20000 in
theorem mLF_ok_42 : FOK (mown 8) 47 8 20 := ⟨RX8, TX8, 22, rfl, by decide, Or.inl (Tb_at 740 rfl rfl)⟩
set_option maxRecDepth 20000 in
theorem mLF_ok_43 : FOK (mown 8) 64 8 8 := ⟨RX8, TX8, 22, rfl, by decide, Or.inl (Tb_at 728 rfl rfl)⟩
set_option maxRecDepth 20000 in
theorem mLF_ok_44 : FOK (mown 8) 71 8 11 := ⟨RX8, TX8, 22, rfl, by decide, Or.inl (Tb_at 731 rfl rfl)⟩
set_option maxRecDepth 20000 in
theorem mLF_ok_45 : FOK (mown 8) 74 8 16 := ⟨RX8, TX8, 22, rfl, by decide, Or.inl (Tb_at 736 rfl rfl)⟩
set_option maxRecDepth 20000 in
theorem mLF_ok_46 : FOK (mown 8) 134 8 2 := ⟨RX8, TX8, 22, rfl, by decide, Or.inl (Tb_at 722 rfl rfl)⟩
set_option maxRecDepth 20000 in
theorem mLF_ok_47 : FOK (mown 8) 137 8 18 := ⟨RX8, TX8, 22, rfl, by decide, Or.inl (Tb_at 738 rfl rfl)⟩
set_option maxRecDepth 20000 in
theorem mLF_ok_48 : FOK (mown 8) 153 8 5 := ⟨RX8, TX8, 22, rfl, by decide, Or.inl (Tb_at 725 rfl rfl)⟩
set_option maxRecDepth 20000 in
theorem mLF_ok_49 : FOK (mown 8) 159 8 21 := ⟨RX8, TX8, 22, rfl, by decide, Or.inl (Tb_at 741 rfl rfl)⟩
set_option maxRecDepth 20000 in
theorem mLF_ok_50 : FOK (mown 8) 191 8 7 := ⟨RX8, TX8, 22, rfl, by decide, Or.inl (Tb_at 727 rfl rfl)⟩
theorem mLF_ok : ∀ q ∈ mLF, FOK (mown q.1) q.2.1 q.2.2.1 q.2.2.2 := List.forall_mem_cons.mpr ⟨mLF_ok_0, List.forall_mem_cons.mpr ⟨mLF_ok_1, List.forall_mem_cons.mpr ⟨mLF_ok_2, List.forall_mem_cons.mpr ⟨mLF_ok_3, List.forall_mem_cons.mpr ⟨mLF_ok_4, List.forall_mem_cons.mpr ⟨mLF_ok_5, List.forall_mem_cons.mpr ⟨mLF_ok_6, List.forall_mem_cons.mpr ⟨mLF_ok_7, List.forall_mem_cons.mpr ⟨mLF_ok_8, List.forall_mem_cons.mpr ⟨mLF_ok_9, List.forall_mem_cons.mpr ⟨mLF_ok_10, List.forall_mem_cons.mpr ⟨mLF_ok_11, List.forall_mem_cons.mpr ⟨mLF_ok_12, List.forall_mem_cons.mpr ⟨mLF_ok_13, List.forall_mem_cons.mpr ⟨mLF_ok_14, List.forall_mem_cons.mpr ⟨mLF_ok_15, List.forall_mem_cons.mpr ⟨mLF_ok_16, List.forall_mem_cons.mpr ⟨mLF_ok_17, List.forall_mem_cons.mpr ⟨mLF_ok_18, List.forall_mem_cons.mpr ⟨mLF_ok_19, List.forall_mem_cons.mpr ⟨mLF_ok_20, List.forall_mem_cons.mpr ⟨mLF_ok_21, List.forall_mem_cons.mpr ⟨mLF_ok_22, List.forall_mem_cons.mpr ⟨mLF_ok_23, List.forall_mem_cons.mpr ⟨mLF_ok_24, List.forall_mem_cons.mpr ⟨mLF_ok_25, List.forall_mem_cons.mpr ⟨mLF_ok_26, List.forall_mem_cons.mpr ⟨mLF_ok_27, List.forall_mem_cons.mpr ⟨mLF_ok_28, List.forall_mem_cons.mpr ⟨mLF_ok_29, List.forall_mem_cons.mpr ⟨mLF_ok_30, List.forall_mem_cons.mpr ⟨mLF_ok_31, List.forall_mem_cons.mpr ⟨mLF_ok_32, List.forall_mem_cons.mpr ⟨mLF_ok_33, List.forall_mem_cons.mpr ⟨mLF_ok_34, List.forall_mem_cons.mpr ⟨mLF_ok_35, List.forall_mem_cons.mpr ⟨mLF_ok_36, List.forall_mem_cons.mpr ⟨mLF_ok_37, List.forall_mem_cons.mpr ⟨mLF_ok_38, List.forall_mem_cons.mpr ⟨mLF_ok_39, List.forall_mem_cons.mpr ⟨mLF_ok_40, List.forall_mem_cons.mpr ⟨mLF_ok_41, List.forall_mem_cons.mpr ⟨mLF_ok_42, List.forall_mem_cons.mpr ⟨mLF_ok_43, List.forall_mem_cons.mpr ⟨mLF_ok_44, List.forall_mem_cons.mpr ⟨mLF_ok_45, List.forall_mem_cons.mpr ⟨mLF_ok_46, List.forall_mem_cons.mpr ⟨mLF_ok_47, List.forall_mem_cons.mpr ⟨mLF_ok_48, List.forall_mem_cons.mpr ⟨mLF_ok_49, List.forall_mem_cons.mpr ⟨mLF_ok_50, fun _ h => absurd h List.not_mem_nil⟩⟩⟩⟩⟩⟩⟩⟩⟩⟩⟩⟩⟩⟩⟩⟩⟩⟩⟩⟩⟩⟩⟩⟩⟩⟩⟩⟩⟩⟩⟩⟩⟩⟩⟩⟩⟩⟩⟩⟩⟩⟩⟩⟩⟩⟩⟩⟩⟩⟩⟩
set_option maxRecDepth 20000 in
theorem mLP_ok_0 : FPK (mown 0) 18 0 2 := ⟨RX0, TX0, 4, rfl, by decide, Tb_at 165 rfl rfl, rfl, by decide +kernel⟩
set_option maxRecDepth 20000 in
theorem mLP_ok_1 : FPK (mown 0) 22 0 3 := ⟨RX0, TX0, 4, rfl, by decide, Tb_at 166 rfl rfl, rfl, by decide +kernel⟩
set_option maxRecDepth 20000 in
theorem mLP_ok_2 : FPK (mown 2) 21 2 1 := ⟨RX2, TX2, 3, rfl, by decide, Tb_at 129 rfl rfl, rfl, by decide +kernel⟩
set_option maxRecDepth 20000 in
theorem mLP_ok_3 : FPK (mown 2) 25 2 2 := ⟨RX2, TX2, 3, rfl, by decide, Tb_at 130 rfl rfl, rfl, by decide +kernel⟩
set_option maxRecDepth 20000 in
theorem mLP_ok_4 : FPK (mown 3) 15 3 1 := ⟨RX3, TX3, 2, rfl, by decide, Tb_at 91 rfl rfl, rfl, by decide +kernel⟩
set_option maxRecDepth 20000 in
theorem mLP_ok_5 : FPK (mown 4) 22 4 1 := ⟨RX4, TX4, 2, rfl, by decide, Tb_at 110 rfl rfl, rfl, by decide +kernel⟩
set_option maxRecDepth 20000 in
theorem mLP_ok_6 : FPK (mown 6) 15 6 1 := ⟨RX6, TX6, 2, rfl, by decide, Tb_at 77 rfl rfl, rfl, by decide +kernel⟩
set_option maxRecDepth 20000 in
theorem mLP_ok_7 : FPK (mown 8) 50 8 0 := ⟨RX8, TX8, 22, rfl, by decide, Tb_at 720 rfl rfl, rfl, by decide +kernel⟩
set_option maxRecDepth 20000 in
theorem mLP_ok_8 : FPK (mown 8) 64 8 8 := ⟨RX8, TX8, 22, rfl, by decide, Tb_at 728 rfl rfl, rfl, by decide +kernel⟩
set_option maxRecDepth 20000 in
theorem mLP_ok_9 : FPK (mown 8) 71 8 11 := ⟨RX8, TX8, 22, rfl, by decide, Tb_at 731 rfl rfl, rfl, by decide +kernel⟩
set_option maxRecDepth 20000 in
theorem mLP_ok_10 : FPK (mown 8) 74 8 16 := ⟨RX8, TX8, 22, rfl, by decide, Tb_at 736 rfl rfl, rfl, by decide +kernel⟩
set_option maxRecDepth 20000 in
theorem mLP_ok_11 : FPK (mown 8) 134 8 2 := ⟨RX8, TX8, 22, rfl, by decide, Tb_at 722 rfl rfl, rfl, by decide +kernel⟩
set_option maxRecDepth 20000 in
theorem mLP_ok_12 : FPK (mown 8) 137 8 18 := ⟨RX8, TX8, 22, rfl, by decide, Tb_at 738 rfl rfl, rfl, by decide +kernel⟩
set_option maxRecDepth 20000 in
theorem mLP_ok_13 : FPK (mown 8) 153 8 5 := ⟨RX8, TX8, 22, rfl, by decide, Tb_at 725 rfl rfl, rfl, by decide +kernel⟩
set_option maxRecDepth 20000 in
theorem mLP_ok_14 : FPK (mown 8) 159 8 21 := ⟨RX8, TX8, 22, rfl, by decide, Tb_at 741 rfl rfl, rfl, by decide +kernel⟩
set_option maxRecDepth 20000 in
theorem mLP_ok_15 : FPK (mown 8) 191 8 7 := ⟨RX8, TX8, 22, rfl, by decide, Tb_at 727 rfl rfl, rfl, by decide +kernel⟩
theorem mLP_ok : ∀ q ∈ mLP, FPK (mown q.1) q.2.1 q.2.2.1 q.2.2.2 := List.forall_mem_cons.mpr ⟨mLP_ok_0, List.forall_mem_cons.mpr ⟨mLP_ok_1, List.forall_mem_cons.mpr ⟨mLP_ok_2, List.forall_mem_cons.mpr ⟨mLP_ok_3, List.forall_mem_cons.mpr ⟨mLP_ok_4, List.forall_mem_cons.mpr ⟨mLP_ok_5, List.forall_mem_cons.mpr ⟨mLP_ok_6, List.forall_mem_cons.mpr ⟨mLP_ok_7, List.forall_mem_cons.mpr ⟨mLP_ok_8, List.forall_mem_cons.mpr ⟨mLP_ok_9, List.forall_mem_cons.mpr ⟨mLP_ok_10, List.forall_mem_cons.mpr ⟨mLP_ok_11, List.forall_mem_cons.mpr ⟨mLP_ok_12, List.forall_mem_cons.mpr ⟨mLP_ok_13, List.forall_mem_cons.mpr ⟨mLP_ok_14, List.forall_mem_cons.mpr ⟨mLP_ok_15, fun _ h => absurd h List.not_mem_nil⟩⟩⟩⟩⟩⟩⟩⟩⟩⟩⟩⟩⟩⟩⟩⟩
set_option maxRecDepth 20000 in
theorem mLS_ok_0 : TOK mprog (mown 0) 40 0 2 1 := ⟨Tb_at 697 rfl rfl, Tb_at 104 rfl rfl, Tb_at 50 rfl rfl, Tb_at 105 rfl rfl⟩
set_option maxRecDepth 20000 in
theorem mLS_ok_1 : TOK mprog (mown 0) 48 161 2 0 := ⟨⟨"java/lang/Integer", "compare", "(II)I"⟩, prog_11_method_40_code, 2, (some .int), k_Int_compare, rfl, by decide +kernel, Tb_at 430 rfl rfl, Or.inl (Tb_at 429 rfl rfl)⟩
set_option maxRecDepth 20000 in
theorem mLS_ok_2 : TOK mprog (mown 1) 24 164 2 0 := ⟨⟨"java/util/Arrays", "fill", "([II)V"⟩, prog_16_method_103_code, 4, none, k_Arr_fill, rfl, by decide +kernel, Tb_at 251 rfl rfl, Or.inl (Tb_at 367 rfl rfl)⟩
set_option maxRecDepth 20000 in
theorem mLS_ok_3 : TOK mprog (mown 1) 30 98 1 0 := ⟨⟨"ZigzagPieces", "isPoint", "(I)Z"⟩, prog_1_method_43_code, 1, (some .boolean), k_Z_isPoint, rfl, by decide +kernel, Tb_at 283 rfl rfl, Or.inr ⟨"ZigzagPieces", Nb_at 398 rfl rfl⟩⟩
set_option maxRecDepth 20000 in
theorem mLS_ok_4 : TOK mprog (mown 1) 38 99 2 0 := ⟨⟨"ZigzagPieces", "isIn", "(II)Z"⟩, prog_1_method_44_code, 2, (some .boolean), k_Z_isIn, rfl, by decide +kernel, Tb_at 315 rfl rfl, Or.inr ⟨"ZigzagPieces", Nb_at 407 rfl rfl⟩⟩
set_option maxRecDepth 20000 in
theorem mLS_ok_5 : TOK mprog (mown 1) 49 0 2 1 := ⟨Tb_at 412 rfl rfl, Tb_at 104 rfl rfl, Tb_at 50 rfl rfl, Tb_at 105 rfl rfl⟩
set_option maxRecDepth 20000 in
theorem mLS_ok_6 : TOK mprog (mown 1) 58 0 2 2 := ⟨Tb_at 452 rfl rfl, Tb_at 289 rfl rfl, Tb_at 50 rfl rfl, Tb_at 290 rfl rfl⟩
set_option maxRecDepth 20000 in
theorem mLS_ok_7 : TOK mprog (mown 2) 15 164 2 0 := ⟨⟨"java/util/Arrays", "fill", "([II)V"⟩, prog_16_method_103_code, 4, none, k_Arr_fill, rfl, by decide +kernel, Tb_at 251 rfl rfl, Or.inl (Tb_at 250 rfl rfl)⟩
set_option maxRecDepth 20000 in
theorem mLS_ok_8 : TOK mprog (mown 2) 28 98 1 0 := ⟨⟨"ZigzagPieces", "isPoint", "(I)Z"⟩, prog_1_method_43_code, 1, (some .boolean), k_Z_isPoint, rfl, by decide +kernel, Tb_at 283 rfl rfl, Or.inr ⟨"ZigzagPieces", Nb_at 306 rfl rfl⟩⟩
set_option maxRecDepth 20000 in
theorem mLS_ok_9 : TOK mprog (mown 2) 32 99 2 0 := ⟨⟨"ZigzagPieces", "isIn", "(II)Z"⟩, prog_1_method_44_code, 2, (some .boolean), k_Z_isIn, rfl, by decide +kernel, Tb_at 315 rfl rfl, Or.inr ⟨"ZigzagPieces", Nb_at 314 rfl rfl⟩⟩
set_option maxRecDepth 20000 in
theorem mLS_ok_10 : TOK mprog (mown 2) 40 89 1 0 := ⟨⟨"ZigzagPieces", "lowOf", "(I)I"⟩, prog_1_method_34_code, 1, (some .int), k_Z_lowOf, rfl, by decide +kernel, Tb_at 301 rfl rfl, Or.inr ⟨"ZigzagPieces", Nb_at 300 rfl rfl⟩⟩
set_option maxRecDepth 20000 in
theorem mLS_ok_11 : TOK mprog (mown 2) 43 90 1 0 := ⟨⟨"ZigzagPieces", "highOf", "(I)I"⟩, prog_1_method_35_code, 1, (some .int), k_Z_highOf, rfl, by decide +kernel, Tb_at 304 rfl rfl, Or.inr ⟨"ZigzagPieces", Nb_at 303 rfl rfl⟩⟩
set_option maxRecDepth 20000 in
theorem mLS_ok_12 : TOK mprog (mown 2) 46 88 1 0 := ⟨⟨"ZigzagPieces", "kindOf", "(I)I"⟩, prog_1_method_33_code, 1, (some .int), k_Z_kindOf, rfl, by decide +kernel, Tb_at 308 rfl rfl, Or.inr ⟨"ZigzagPieces", Nb_at 307 rfl rfl⟩⟩
set_option maxRecDepth 20000 in
theorem mLS_ok_13 : TOK mprog (mown 2) 55 93 1 0 := ⟨⟨"ZigzagPieces", "isOfEdge", "(I)Z"⟩, prog_1_method_38_code, 1, (some .boolean), k_Z_isOfEdge, rfl, by decide +kernel, Tb_at 276 rfl rfl, Or.inr ⟨"ZigzagPieces", Nb_at 329 rfl rfl⟩⟩
set_option maxRecDepth 20000 in
theorem mLS_ok_14 : TOK mprog (mown 2) 58 100 1 0 := ⟨⟨"ZigzagPieces", "lowestOf", "(I)I"⟩, prog_1_method_45_code, 1, (some .int), k_Z_lowestOf, rfl, by decide +kernel, Tb_at 385 rfl rfl, Or.inr ⟨"ZigzagPieces", Nb_at 384 rfl rfl⟩⟩
set_option maxRecDepth 20000 in
theorem mLS_ok_15 : TOK mprog (mown 2) 64 163 1 0 := ⟨⟨"java/lang/Integer", "bitCount", "(I)I"⟩, prog_11_method_49_code, 1, (some .int), k_Int_bitCount, rfl, by decide +kernel, Tb_at 576 rfl rfl, Or.inl (Tb_at 631 rfl rfl)⟩
set_option maxRecDepth 20000 in
theorem mLS_ok_16 : TOK mprog (mown 5) 54 89 1 0 := ⟨⟨"ZigzagPieces", "lowOf", "(I)I"⟩, prog_1_method_34_code, 1, (some .int), k_Z_lowOf, rfl, by decide +kernel, Tb_at 301 rfl rfl, Or.inr ⟨"ZigzagPieces", Nb_at 378 rfl rfl⟩⟩
set_option maxRecDepth 20000 in
theorem mLS_ok_17 : TOK mprog (mown 5) 57 90 1 0 := ⟨⟨"ZigzagPieces", "highOf", "(I)I"⟩, prog_1_method_35_code, 1, (some .int), k_Z_highOf, rfl, by decide +kernel, Tb_at 304 rfl rfl, Or.inr ⟨"ZigzagPieces", Nb_at 379 rfl rfl⟩⟩
set_option maxRecDepth 20000 in
theorem mLS_ok_18 : TOK mprog (mown 5) 63 99 2 0 := ⟨⟨"ZigzagPieces", "isIn", "(II)Z"⟩, prog_1_method_44_code, 2, (some .boolean), k_Z_isIn, rfl, by decide +kernel, Tb_at 315 rfl rfl, Or.inr ⟨"ZigzagPieces", Nb_at 391 rfl rfl⟩⟩
set_option maxRecDepth 20000 in
theorem mLS_ok_19 : TOK mprog (mown 5) 71 88 1 0 := ⟨⟨"ZigzagPieces", "kindOf", "(I)I"⟩, prog_1_method_33_code, 1, (some .int), k_Z_kindOf, rfl, by decide +kernel, Tb_at 308 rfl rfl, Or.inr ⟨"ZigzagPieces", Nb_at 393 rfl rfl⟩⟩
set_option maxRecDepth 20000 in
theorem mLS_ok_20 : TOK mprog (mown 6) 23 95 1 0 := ⟨⟨"ZigzagPieces", "kindOfLetter", "(I)I"⟩, prog_1_method_40_code, 1, (some .int), k_Z_kindOfLetter, rfl, by decide +kernel, Tb_at 270 rfl rfl, Or.inr ⟨"ZigzagPieces", Nb_at 269 rfl rfl⟩⟩
set_option maxRecDepth 20000 in
theorem mLS_ok_21 : TOK mprog (mown 6) 26 92 1 0 := ⟨⟨"ZigzagPieces", "isKind", "(I)Z"⟩, prog_1_method_37_code, 1, (some .boolean), k_Z_isKind, rfl, by decide +kernel, Tb_at 273 rfl rfl, Or.inr ⟨"ZigzagPieces", Nb_at 272 rfl rfl⟩⟩
set_option maxRecDepth 20000 in
theorem mLS_ok_22 : TOK mprog (mown 6) 30 93 1 0 := ⟨⟨"ZigzagPieces", "isOfEdge", "(I)Z"⟩, prog_1_method_38_code, 1, (some .boolean), k_Z_isOfEdge, rfl, by decide +kernel, Tb_at 276 rfl rfl, Or.inr ⟨"ZigzagPieces", Nb_at 275 rfl rfl⟩⟩
set_option maxRecDepth 20000 in
theorem mLS_ok_23 : TOK mprog (mown 6) 33 94 1 0 := ⟨⟨"ZigzagPieces", "itemLength", "(I)I"⟩, prog_1_method_39_code, 1, (some .int), k_Z_itemLength, rfl, by decide +kernel, Tb_at 279 rfl rfl, Or.inr ⟨"ZigzagPieces", Nb_at 278 rfl rfl⟩⟩
set_option maxRecDepth 20000 in
theorem mLS_ok_24 : TOK mprog (mown 6) 36 98 1 0 := ⟨⟨"ZigzagPieces", "isPoint", "(I)Z"⟩, prog_1_method_43_code, 1, (some .boolean), k_Z_isPoint, rfl, by decide +kernel, Tb_at 283 rfl rfl, Or.inr ⟨"ZigzagPieces", Nb_at 282 rfl rfl⟩⟩
set_option maxRecDepth 20000 in
theorem mLS_ok_25 : TOK mprog (mown 6) 39 87 3 0 := ⟨⟨"ZigzagPieces", "actOf", "(III)I"⟩, prog_1_method_32_code, 4, (some .int), k_Z_actOf, rfl, by decide +kernel, Tb_at 286 rfl rfl, Or.inr ⟨"ZigzagPieces", Nb_at 285 rfl rfl⟩⟩
set_option maxRecDepth 20000 in
theorem mLS_ok_26 : TOK mprog (mown 7) 76 92 1 0 := ⟨⟨"ZigzagPieces", "isKind", "(I)Z"⟩, prog_1_method_37_code, 1, (some .boolean), k_Z_isKind, rfl, by decide +kernel, Tb_at 273 rfl rfl, Or.inl (Tb_at 516 rfl rfl)⟩
set_option maxRecDepth 20000 in
theorem mLS_ok_27 : TOK mprog (mown 7) 80 98 1 0 := ⟨⟨"ZigzagPieces", "isPoint", "(I)Z"⟩, prog_1_method_43_code, 1, (some .boolean), k_Z_isPoint, rfl, by decide +kernel, Tb_at 283 rfl rfl, Or.inl (Tb_at 517 rfl rfl)⟩
set_option maxRecDepth 20000 in
theorem mLS_ok_28 : TOK mprog (mown 7) 83 93 1 0 := ⟨⟨"ZigzagPieces", "isOfEdge", "(I)Z"⟩, prog_1_method_38_code, 1, (some .boolean), k_Z_isOfEdge, rfl, by decide +kernel, Tb_at 276 rfl rfl, Or.inl (Tb_at 281 rfl rfl)⟩
set_option maxRecDepth 20000 in
theorem mLS_ok_29 : TOK mprog (mown 7) 86 87 3 0 := ⟨⟨"ZigzagPieces", "actOf", "(III)I"⟩, prog_1_method_32_code, 4, (some .int), k_Z_actOf, rfl, by decide +kernel, Tb_at 286 rfl rfl, Or.inl (Tb_at 518 rfl rfl)⟩
set_option maxRecDepth 20000 in
theorem mLS_ok_30 : TOK mprog (mown 7) 134 91 1 0 := ⟨⟨"ZigzagPieces", "otherWay", "(I)I"⟩, prog_1_method_36_code, 1, (some .int), k_Z_otherWay, rfl, by decide +kernel, Tb_at 563 rfl rfl, Or.inl (Tb_at 562 rfl rfl)⟩
set_option maxRecDepth 20000 in
theorem mLS_ok_31 : TOK mprog (mown 7) 140 163 1 0 := ⟨⟨"java/lang/Integer", "bitCount", "(I)I"⟩, prog_11_method_49_code, 1, (some .int), k_Int_bitCount, rfl, by decide +kernel, Tb_at 576 rfl rfl, Or.inl (Tb_at 575 rfl rfl)⟩
set_option maxRecDepth 20000 in
theorem mLS_ok_32 : TOK mprog (mown 7) 157 88 1 0 := ⟨⟨"ZigzagPieces", "kindOf", "(I)I"⟩, prog_1_method_33_code, 1, (some .int), k_Z_kindOf, rfl, by decide +kernel, Tb_at 308 rfl rfl, Or.inl (Tb_at 334 rfl rfl)⟩
set_option maxRecDepth 20000 in
theorem mLS_ok_33 : TOK mprog (mown 7) 160 94 1 0 := ⟨⟨"ZigzagPieces", "itemLength", "(I)I"⟩, prog_1_method_39_code, 1, (some .int), k_Z_itemLength, rfl, by decide +kernel, Tb_at 279 rfl rfl, Or.inl (Tb_at 335 rfl rfl)⟩
set_option maxRecDepth 20000 in
theorem mLS_ok_34 : TOK mprog (mown 7) 163 97 2 0 := ⟨⟨"ZigzagPieces", "letterOf", "(II)I"⟩, prog_1_method_42_code, 3, (some .int), k_Z_letterOf, rfl, by decide +kernel, Tb_at 609 rfl rfl, Or.inl (Tb_at 608 rfl rfl)⟩
set_option maxRecDepth 20000 in
theorem mLS_ok_35 : TOK mprog (mown 7) 167 89 1 0 := ⟨⟨"ZigzagPieces", "lowOf", "(I)I"⟩, prog_1_method_34_code, 1, (some .int), k_Z_lowOf, rfl, by decide +kernel, Tb_at 301 rfl rfl, Or.inl (Tb_at 565 rfl rfl)⟩
set_option maxRecDepth 20000 in
theorem mLS_ok_36 : TOK mprog (mown 7) 170 90 1 0 := ⟨⟨"ZigzagPieces", "highOf", "(I)I"⟩, prog_1_method_35_code, 1, (some .int), k_Z_highOf, rfl, by decide +kernel, Tb_at 304 rfl rfl, Or.inl (Tb_at 566 rfl rfl)⟩
set_option maxRecDepth 20000 in
theorem mLS_ok_37 : TOK mprog (mown 7) 189 100 1 0 := ⟨⟨"ZigzagPieces", "lowestOf", "(I)I"⟩, prog_1_method_45_code, 1, (some .int), k_Z_lowestOf, rfl, by decide +kernel, Tb_at 385 rfl rfl, Or.inl (Tb_at 638 rfl rfl)⟩
set_option maxRecDepth 20000 in
theorem mLS_ok_38 : TOK mprog (mown 7) 201 99 2 0 := ⟨⟨"ZigzagPieces", "isIn", "(II)Z"⟩, prog_1_method_44_code, 2, (some .boolean), k_Z_isIn, rfl, by decide +kernel, Tb_at 315 rfl rfl, Or.inl (Tb_at 648 rfl rfl)⟩
set_option maxRecDepth 20000 in
theorem mLS_ok_39 : TOK mprog (mown 7) 242 0 2 2 := ⟨Tb_at 288 rfl rfl, Tb_at 289 rfl rfl, Tb_at 50 rfl rfl, Tb_at 290 rfl rfl⟩
set_option maxRecDepth 20000 in
theorem mLS_ok_40 : TOK mprog (mown 7) 247 0 2 1 := ⟨Tb_at 291 rfl rfl, Tb_at 104 rfl rfl, Tb_at 50 rfl rfl, Tb_at 105 rfl rfl⟩
set_option maxRecDepth 20000 in
theorem mLS_ok_41 : TOK mprog (mown 7) 250 96 1 0 := ⟨⟨"ZigzagPieces", "letterOfKind", "(I)I"⟩, prog_1_method_41_code, 1, (some .int), k_Z_letterOfKind, rfl, by decide +kernel, Tb_at 612 rfl rfl, Or.inl (Tb_at 611 rfl rfl)⟩
set_option maxRecDepth 20000 in
theorem mLS_ok_42 : TOK mprog (mown 7) 253 162 1 0 := ⟨⟨"java/lang/Integer", "numberOfTrailingZeros", "(I)I"⟩, prog_11_method_48_code, 2, (some .int), k_Int_numberOfTrailingZeros, rfl, by decide +kernel, Tb_at 388 rfl rfl, Or.inl (Tb_at 387 rfl rfl)⟩
set_option maxRecDepth 20000 in
theorem mLS_ok_43 : TOK mprog (mown 8) 54 104 1 0 := ⟨⟨"ZigzagPiecesModel", "oneOf", "(I)I"⟩, prog_10_method_6_code, 1, (some .int), k_M_oneOf, rfl, by decide +kernel, Tb_at 826 rfl rfl, Or.inl (Tb_at 825 rfl rfl)⟩
set_option maxRecDepth 20000 in
theorem mLS_ok_44 : TOK mprog (mown 8) 58 105 1 0 := ⟨⟨"ZigzagPiecesModel", "otherOf", "(I)I"⟩, prog_10_method_7_code, 1, (some .int), k_M_otherOf, rfl, by decide +kernel, Tb_at 829 rfl rfl, Or.inl (Tb_at 828 rfl rfl)⟩
set_option maxRecDepth 20000 in
theorem mLS_ok_45 : TOK mprog (mown 8) 61 103 1 0 := ⟨⟨"ZigzagPiecesModel", "kindOf", "(I)I"⟩, prog_10_method_5_code, 1, (some .int), k_M_kindOf, rfl, by decide +kernel, Tb_at 832 rfl rfl, Or.inl (Tb_at 831 rfl rfl)⟩
set_option maxRecDepth 20000 in
theorem mLS_ok_46 : TOK mprog (mown 8) 67 106 2 0 := ⟨⟨"ZigzagPiecesModel", "has", "(II)Z"⟩, prog_10_method_8_code, 2, (some .boolean), k_M_has, rfl, by decide +kernel, Tb_at 835 rfl rfl, Or.inl (Tb_at 834 rfl rfl)⟩
set_option maxRecDepth 20000 in
theorem mLS_ok_47 : TOK mprog (mown 8) 127 124 1 0 := ⟨⟨"ZigzagPiecesModel", "bits", "(I)I"⟩, prog_10_method_26_code, 3, (some .int), k_M_bits, rfl, by decide +kernel, Tb_at 938 rfl rfl, Or.inl (Tb_at 937 rfl rfl)⟩
set_option maxRecDepth 20000 in
theorem mLS_ok_48 : TOK mprog (mown 8) 130 101 3 0 := ⟨⟨"ZigzagPiecesModel", "in", "(III)Z"⟩, prog_10_method_3_code, 3, (some .boolean), k_M_in, rfl, by decide +kernel, Tb_at 792 rfl rfl, Or.inl (Tb_at 791 rfl rfl)⟩
set_option maxRecDepth 20000 in
theorem mLS_ok_49 : TOK mprog (mown 8) 143 102 3 0 := ⟨⟨"ZigzagPiecesModel", "codeOf", "(III)I"⟩, prog_10_method_4_code, 3, (some .int), k_M_codeOf, rfl, by decide +kernel, Tb_at 819 rfl rfl, Or.inl (Tb_at 818 rfl rfl)⟩
theorem mLS_ok : ∀ q ∈ mLS, TOK mprog (mown q.1) q.2.1 q.2.2.1 q.2.2.2.1 q.2.2.2.2 := List.forall_mem_cons.mpr ⟨mLS_ok_0, List.forall_mem_cons.mpr ⟨mLS_ok_1, List.forall_mem_cons.mpr ⟨mLS_ok_2, List.forall_mem_cons.mpr ⟨mLS_ok_3, List.forall_mem_cons.mpr ⟨mLS_ok_4, List.forall_mem_cons.mpr ⟨mLS_ok_5, List.forall_mem_cons.mpr ⟨mLS_ok_6, List.forall_mem_cons.mpr ⟨mLS_ok_7, List.forall_mem_cons.mpr ⟨mLS_ok_8, List.forall_mem_cons.mpr ⟨mLS_ok_9, List.forall_mem_cons.mpr ⟨mLS_ok_10, List.forall_mem_cons.mpr ⟨mLS_ok_11, List.forall_mem_cons.mpr ⟨mLS_ok_12, List.forall_mem_cons.mpr ⟨mLS_ok_13, List.forall_mem_cons.mpr ⟨mLS_ok_14, List.forall_mem_cons.mpr ⟨mLS_ok_15, List.forall_mem_cons.mpr ⟨mLS_ok_16, List.forall_mem_cons.mpr ⟨mLS_ok_17, List.forall_mem_cons.mpr ⟨mLS_ok_18, List.forall_mem_cons.mpr ⟨mLS_ok_19, List.forall_mem_cons.mpr ⟨mLS_ok_20, List.forall_mem_cons.mpr ⟨mLS_ok_21, List.forall_mem_cons.mpr ⟨mLS_ok_22, List.forall_mem_cons.mpr ⟨mLS_ok_23, List.forall_mem_cons.mpr ⟨mLS_ok_24, List.forall_mem_cons.mpr ⟨mLS_ok_25, List.forall_mem_cons.mpr ⟨mLS_ok_26, List.forall_mem_cons.mpr ⟨mLS_ok_27, List.forall_mem_cons.mpr ⟨mLS_ok_28, List.forall_mem_cons.mpr ⟨mLS_ok_29, List.forall_mem_cons.mpr ⟨mLS_ok_30, List.forall_mem_cons.mpr ⟨mLS_ok_31, List.forall_mem_cons.mpr ⟨mLS_ok_32, List.forall_mem_cons.mpr ⟨mLS_ok_33, List.forall_mem_cons.mpr ⟨mLS_ok_34, List.forall_mem_cons.mpr ⟨mLS_ok_35, List.forall_mem_cons.mpr ⟨mLS_ok_36, List.forall_mem_cons.mpr ⟨mLS_ok_37, List.forall_mem_cons.mpr ⟨mLS_ok_38, List.forall_mem_cons.mpr ⟨mLS_ok_39, List.forall_mem_cons.mpr ⟨mLS_ok_40, List.forall_mem_cons.mpr ⟨mLS_ok_41, List.forall_mem_cons.mpr ⟨mLS_ok_42, List.forall_mem_cons.mpr ⟨mLS_ok_43, List.forall_mem_cons.mpr ⟨mLS_ok_44, List.forall_mem_cons.mpr ⟨mLS_ok_45, List.forall_mem_cons.mpr ⟨mLS_ok_46, List.forall_mem_cons.mpr ⟨mLS_ok_47, List.forall_mem_cons.mpr ⟨mLS_ok_48, List.forall_mem_cons.mpr ⟨mLS_ok_49, fun _ h => absurd h List.not_mem_nil⟩⟩⟩⟩⟩⟩⟩⟩⟩⟩⟩⟩⟩⟩⟩⟩⟩⟩⟩⟩⟩⟩⟩⟩⟩⟩⟩⟩⟩⟩⟩⟩⟩⟩⟩⟩⟩⟩⟩⟩⟩⟩⟩⟩⟩⟩⟩⟩⟩⟩
set_option maxRecDepth 20000 in
theorem mLV_ok_0 : VOK mprog (mown 0) 25 12 4 0 := ⟨⟨"ZigzagPieces$Bars", "compare", "(III)I"⟩, prog_2_method_14_code, 5, (some .int), k_Bars_compare, 3, rfl, rfl, by decide +kernel, Tb_at 423 rfl rfl, Tb_at 6 rfl rfl, ⟨TX0, 4, rfl⟩, Or.inl (Tb_at 421 rfl rfl)⟩
set_option maxRecDepth 20000 in
theorem mLV_ok_1 : VOK mprog (mown 0) 29 11 3 0 := ⟨⟨"ZigzagPieces$Bars", "lastOf", "(II)I"⟩, prog_2_method_13_code, 4, (some .int), k_Bars_lastOf, 2, rfl, rfl, by decide +kernel, Tb_at 670 rfl rfl, Tb_at 15 rfl rfl, ⟨TX0, 4, rfl⟩, Or.inl (Tb_at 668 rfl rfl)⟩
set_option maxRecDepth 20000 in
theorem mLV_ok_2 : VOK mprog (mown 0) 33 4 2 0 := ⟨⟨"ZigzagPieces$Bars", "beginOf", "(I)I"⟩, prog_2_method_6_code, 2, (some .int), k_Bars_beginOf, 1, rfl, rfl, by decide +kernel, Tb_at 426 rfl rfl, Tb_at 427 rfl rfl, ⟨TX0, 4, rfl⟩, Or.inl (Tb_at 425 rfl rfl)⟩
set_option maxRecDepth 20000 in
theorem mLV_ok_3 : VOK mprog (mown 0) 37 6 3 0 := ⟨⟨"ZigzagPieces$Bars", "lengthOf", "(II)I"⟩, prog_2_method_8_code, 3, (some .int), k_Bars_lengthOf, 2, rfl, rfl, by decide +kernel, Tb_at 665 rfl rfl, Tb_at 666 rfl rfl, ⟨TX0, 4, rfl⟩, Or.inl (Tb_at 688 rfl rfl)⟩
set_option maxRecDepth 20000 in
theorem mLV_ok_4 : VOK mprog (mown 0) 45 5 2 0 := ⟨⟨"ZigzagPieces$Bars", "endOf", "(I)I"⟩, prog_2_method_7_code, 2, (some .int), k_Bars_endOf, 1, rfl, rfl, by decide +kernel, Tb_at 433 rfl rfl, Tb_at 434 rfl rfl, ⟨TX0, 4, rfl⟩, Or.inl (Tb_at 432 rfl rfl)⟩
set_option maxRecDepth 20000 in
theorem mLV_ok_5 : VOK mprog (mown 1) 34 24 4 1 := ⟨⟨"ZigzagPieces$Kinship", "setSince", "(III)V"⟩, prog_3_method_13_code, 4, none, k_Kin_setSince, 3, rfl, rfl, by decide +kernel, Tb_at 442 rfl rfl, Tb_at 7 rfl rfl, ⟨TX1, 4, rfl⟩, Or.inl (Tb_at 440 rfl rfl)⟩
set_option maxRecDepth 20000 in
theorem mLV_ok_6 : VOK mprog (mown 1) 42 23 4 1 := ⟨⟨"ZigzagPieces$Kinship", "setSinceOfAll", "(III)V"⟩, prog_3_method_12_code, 5, none, k_Kin_setSinceOfAll, 3, rfl, rfl, by decide +kernel, Tb_at 459 rfl rfl, Tb_at 9 rfl rfl, ⟨TX1, 4, rfl⟩, Or.inl (Tb_at 457 rfl rfl)⟩
set_option maxRecDepth 20000 in
theorem mLV_ok_7 : VOK mprog (mown 1) 45 15 3 1 := ⟨⟨"ZigzagPieces$Kinship", "sinceOf", "(II)I"⟩, prog_3_method_4_code, 3, (some .int), k_Kin_sinceOf, 2, rfl, rfl, by decide +kernel, Tb_at 409 rfl rfl, Tb_at 410 rfl rfl, ⟨TX1, 4, rfl⟩, Or.inl (Tb_at 408 rfl rfl)⟩
set_option maxRecDepth 20000 in
theorem mLV_ok_8 : VOK mprog (mown 1) 54 14 2 1 := ⟨⟨"ZigzagPieces$Kinship", "rootOf", "(I)I"⟩, prog_3_method_3_code, 2, (some .int), k_Kin_rootOf, 1, rfl, rfl, by decide +kernel, Tb_at 414 rfl rfl, Tb_at 415 rfl rfl, ⟨TX1, 4, rfl⟩, Or.inl (Tb_at 413 rfl rfl)⟩
set_option maxRecDepth 20000 in
theorem mLV_ok_9 : VOK mprog (mown 1) 61 22 3 1 := ⟨⟨"ZigzagPieces$Kinship", "lowerRoots", "(II)V"⟩, prog_3_method_11_code, 4, none, k_Kin_lowerRoots, 2, rfl, rfl, by decide +kernel, Tb_at 455 rfl rfl, Tb_at 8 rfl rfl, ⟨TX1, 4, rfl⟩, Or.inl (Tb_at 453 rfl rfl)⟩
set_option maxRecDepth 20000 in
theorem mLV_ok_10 : VOK mprog (mown 2) 36 35 2 2 := ⟨⟨"ZigzagPieces$Net", "nearOf", "(I)I"⟩, prog_4_method_12_code, 2, (some .int), k_Net_nearOf, 1, rfl, rfl, by decide +kernel, Tb_at 319 rfl rfl, Tb_at 2 rfl rfl, ⟨TX2, 3, rfl⟩, Or.inl (Tb_at 317 rfl rfl)⟩
set_option maxRecDepth 20000 in
theorem mLV_ok_11 : VOK mprog (mown 2) 49 28 2 2 := ⟨⟨"ZigzagPieces$Net", "has", "(I)Z"⟩, prog_4_method_5_code, 2, (some .boolean), k_Net_has, 1, rfl, rfl, by decide +kernel, Tb_at 311 rfl rfl, Tb_at 312 rfl rfl, ⟨TX2, 3, rfl⟩, Or.inl (Tb_at 310 rfl rfl)⟩
set_option maxRecDepth 20000 in
theorem mLV_ok_12 : VOK mprog (mown 2) 52 29 3 2 := ⟨⟨"ZigzagPieces$Net", "joined", "(II)Z"⟩, prog_4_method_6_code, 3, (some .boolean), k_Net_joined, 2, rfl, rfl, by decide +kernel, Tb_at 322 rfl rfl, Tb_at 323 rfl rfl, ⟨TX2, 3, rfl⟩, Or.inl (Tb_at 321 rfl rfl)⟩
set_option maxRecDepth 20000 in
theorem mLV_ok_13 : VOK mprog (mown 2) 61 32 2 2 := ⟨⟨"ZigzagPieces$Net", "pieceOf", "(I)I"⟩, prog_4_method_9_code, 6, (some .int), k_Net_pieceOf, 1, rfl, rfl, by decide +kernel, Tb_at 381 rfl rfl, Tb_at 382 rfl rfl, ⟨TX2, 3, rfl⟩, Or.inl (Tb_at 626 rfl rfl)⟩
set_option maxRecDepth 20000 in
theorem mLV_ok_14 : VOK mprog (mown 2) 69 33 1 2 := ⟨⟨"ZigzagPieces$Net", "pieces", "()I"⟩, prog_4_method_10_code, 4, (some .int), k_Net_pieces, 0, rfl, rfl, by decide +kernel, Tb_at 623 rfl rfl, Tb_at 624 rfl rfl, ⟨TX2, 3, rfl⟩, Or.inl (Tb_at 632 rfl rfl)⟩
set_option maxRecDepth 20000 in
theorem mLV_ok_15 : VOK mprog (mown 3) 19 37 1 3 := ⟨⟨"ZigzagPieces$Row", "empty", "()V"⟩, prog_5_method_3_code, 1, none, k_Row_empty, 0, rfl, rfl, by decide +kernel, Tb_at 254 rfl rfl, Tb_at 255 rfl rfl, ⟨TX3, 2, rfl⟩, Or.inl (Tb_at 344 rfl rfl)⟩
set_option maxRecDepth 20000 in
theorem mLV_ok_16 : VOK mprog (mown 3) 22 40 2 3 := ⟨⟨"ZigzagPieces$Row", "actAt", "(I)I"⟩, prog_5_method_6_code, 2, (some .int), k_Row_actAt, 1, rfl, rfl, by decide +kernel, Tb_at 346 rfl rfl, Tb_at 347 rfl rfl, ⟨TX3, 2, rfl⟩, Or.inl (Tb_at 345 rfl rfl)⟩
set_option maxRecDepth 20000 in
theorem mLV_ok_17 : VOK mprog (mown 3) 26 38 2 3 := ⟨⟨"ZigzagPieces$Row", "add", "(I)V"⟩, prog_5_method_4_code, 2, none, k_Row_add, 1, rfl, rfl, by decide +kernel, Tb_at 331 rfl rfl, Tb_at 332 rfl rfl, ⟨TX3, 2, rfl⟩, Or.inl (Tb_at 349 rfl rfl)⟩
set_option maxRecDepth 20000 in
theorem mLV_ok_18 : VOK mprog (mown 4) 26 48 1 4 := ⟨⟨"ZigzagPieces$Shelf", "loseOldest", "()V"⟩, prog_6_method_7_code, 3, none, k_Shf_loseOldest, 0, rfl, rfl, by decide +kernel, Tb_at 525 rfl rfl, Tb_at 11 rfl rfl, ⟨TX4, 2, rfl⟩, Or.inl (Tb_at 523 rfl rfl)⟩
set_option maxRecDepth 20000 in
theorem mLV_ok_19 : VOK mprog (mown 4) 29 46 1 4 := ⟨⟨"ZigzagPieces$Shelf", "last", "()LZigzagPieces$Row;"⟩, prog_6_method_5_code, 1, (some (.object "ZigzagPieces$Row")), k_Shf_last, 0, rfl, rfl, by decide +kernel, Tb_at 528 rfl rfl, Tb_at 529 rfl rfl, ⟨TX4, 2, rfl⟩, Or.inl (Tb_at 527 rfl rfl)⟩
set_option maxRecDepth 20000 in
theorem mLV_ok_20 : VOK mprog (mown 4) 33 42 2 3 := ⟨⟨"ZigzagPieces$Row", "copy", "(LZigzagPieces$Row;)V"⟩, prog_5_method_8_code, 3, none, k_Row_copy, 1, rfl, rfl, by decide +kernel, Tb_at 341 rfl rfl, Tb_at 342 rfl rfl, ⟨TX3, 2, rfl⟩, Or.inl (Tb_at 531 rfl rfl)⟩
set_option maxRecDepth 20000 in
theorem mLV_ok_21 : VOK mprog (mown 5) 32 25 1 2 := ⟨⟨"ZigzagPieces$Net", "empty", "()V"⟩, prog_4_method_2_code, 1, none, k_Net_empty, 0, rfl, rfl, by decide +kernel, Tb_at 247 rfl rfl, Tb_at 248 rfl rfl, ⟨TX2, 3, rfl⟩, Or.inl (Tb_at 362 rfl rfl)⟩
set_option maxRecDepth 20000 in
theorem mLV_ok_22 : VOK mprog (mown 5) 35 13 1 1 := ⟨⟨"ZigzagPieces$Kinship", "empty", "()V"⟩, prog_3_method_2_code, 1, none, k_Kin_empty, 0, rfl, rfl, by decide +kernel, Tb_at 364 rfl rfl, Tb_at 365 rfl rfl, ⟨TX1, 4, rfl⟩, Or.inl (Tb_at 363 rfl rfl)⟩
set_option maxRecDepth 20000 in
theorem mLV_ok_23 : VOK mprog (mown 5) 36 0 1 0 := ⟨⟨"ZigzagPieces$Bars", "empty", "()V"⟩, prog_2_method_2_code, 1, none, k_Bars_empty, 0, rfl, rfl, by decide +kernel, Tb_at 369 rfl rfl, Tb_at 370 rfl rfl, ⟨TX0, 4, rfl⟩, Or.inl (Tb_at 368 rfl rfl)⟩
set_option maxRecDepth 20000 in
theorem mLV_ok_24 : VOK mprog (mown 5) 37 40 2 3 := ⟨⟨"ZigzagPieces$Row", "actAt", "(I)I"⟩, prog_5_method_6_code, 2, (some .int), k_Row_actAt, 1, rfl, rfl, by decide +kernel, Tb_at 346 rfl rfl, Tb_at 347 rfl rfl, ⟨TX3, 2, rfl⟩, Or.inl (Tb_at 372 rfl rfl)⟩
set_option maxRecDepth 20000 in
theorem mLV_ok_25 : VOK mprog (mown 5) 43 30 2 2 := ⟨⟨"ZigzagPieces$Net", "canDo", "(I)Z"⟩, prog_4_method_7_code, 4, (some .boolean), k_Net_canDo, 1, rfl, rfl, by decide +kernel, Tb_at 297 rfl rfl, Tb_at 298 rfl rfl, ⟨TX2, 3, rfl⟩, Or.inl (Tb_at 373 rfl rfl)⟩
set_option maxRecDepth 20000 in
theorem mLV_ok_26 : VOK mprog (mown 5) 47 50 3 5 := ⟨⟨"ZigzagPieces$Story", "step", "(II)V"⟩, prog_7_method_3_code, 7, none, k_Sto_step, 2, rfl, rfl, by decide +kernel, Tb_at 376 rfl rfl, Tb_at 5 rfl rfl, ⟨TX5, 3, rfl⟩, Or.inl (Tb_at 374 rfl rfl)⟩
set_option maxRecDepth 20000 in
theorem mLV_ok_27 : VOK mprog (mown 5) 51 51 1 5 := ⟨⟨"ZigzagPieces$Story", "addOpenBars", "()V"⟩, prog_7_method_4_code, 3, none, k_Sto_addOpenBars, 0, rfl, rfl, by decide +kernel, Tb_at 467 rfl rfl, Tb_at 10 rfl rfl, ⟨TX5, 3, rfl⟩, Or.inl (Tb_at 465 rfl rfl)⟩
set_option maxRecDepth 20000 in
theorem mLV_ok_28 : VOK mprog (mown 5) 60 32 2 2 := ⟨⟨"ZigzagPieces$Net", "pieceOf", "(I)I"⟩, prog_4_method_9_code, 6, (some .int), k_Net_pieceOf, 1, rfl, rfl, by decide +kernel, Tb_at 381 rfl rfl, Tb_at 382 rfl rfl, ⟨TX2, 3, rfl⟩, Or.inl (Tb_at 380 rfl rfl)⟩
set_option maxRecDepth 20000 in
theorem mLV_ok_29 : VOK mprog (mown 5) 67 31 2 2 := ⟨⟨"ZigzagPieces$Net", "change", "(I)V"⟩, prog_4_method_8_code, 4, none, k_Net_change, 1, rfl, rfl, by decide +kernel, Tb_at 326 rfl rfl, Tb_at 327 rfl rfl, ⟨TX2, 3, rfl⟩, Or.inl (Tb_at 392 rfl rfl)⟩
set_option maxRecDepth 20000 in
theorem mLV_ok_30 : VOK mprog (mown 5) 74 16 3 1 := ⟨⟨"ZigzagPieces$Kinship", "come", "(II)V"⟩, prog_3_method_5_code, 3, none, k_Kin_come, 2, rfl, rfl, by decide +kernel, Tb_at 395 rfl rfl, Tb_at 396 rfl rfl, ⟨TX1, 4, rfl⟩, Or.inl (Tb_at 394 rfl rfl)⟩
set_option maxRecDepth 20000 in
theorem mLV_ok_31 : VOK mprog (mown 5) 77 26 1 2 := ⟨⟨"ZigzagPieces$Net", "points", "()I"⟩, prog_4_method_3_code, 1, (some .int), k_Net_points, 0, rfl, rfl, by decide +kernel, Tb_at 400 rfl rfl, Tb_at 401 rfl rfl, ⟨TX2, 3, rfl⟩, Or.inl (Tb_at 399 rfl rfl)⟩
set_option maxRecDepth 20000 in
theorem mLV_ok_32 : VOK mprog (mown 5) 81 19 3 1 := ⟨⟨"ZigzagPieces$Kinship", "beginOfGoing", "(II)I"⟩, prog_3_method_8_code, 5, (some .int), k_Kin_beginOfGoing, 2, rfl, rfl, by decide +kernel, Tb_at 404 rfl rfl, Tb_at 405 rfl rfl, ⟨TX1, 4, rfl⟩, Or.inl (Tb_at 403 rfl rfl)⟩
set_option maxRecDepth 20000 in
theorem mLV_ok_33 : VOK mprog (mown 5) 85 3 3 0 := ⟨⟨"ZigzagPieces$Bars", "add", "(II)V"⟩, prog_2_method_5_code, 4, none, k_Bars_add, 2, rfl, rfl, by decide +kernel, Tb_at 418 rfl rfl, Tb_at 419 rfl rfl, ⟨TX0, 4, rfl⟩, Or.inl (Tb_at 417 rfl rfl)⟩
set_option maxRecDepth 20000 in
theorem mLV_ok_34 : VOK mprog (mown 5) 88 17 2 1 := ⟨⟨"ZigzagPieces$Kinship", "go", "(I)V"⟩, prog_3_method_6_code, 3, none, k_Kin_go, 1, rfl, rfl, by decide +kernel, Tb_at 437 rfl rfl, Tb_at 438 rfl rfl, ⟨TX1, 4, rfl⟩, Or.inl (Tb_at 436 rfl rfl)⟩
set_option maxRecDepth 20000 in
theorem mLV_ok_35 : VOK mprog (mown 5) 91 20 3 1 := ⟨⟨"ZigzagPieces$Kinship", "beginOfJoining", "(II)I"⟩, prog_3_method_9_code, 4, (some .int), k_Kin_beginOfJoining, 2, rfl, rfl, by decide +kernel, Tb_at 445 rfl rfl, Tb_at 446 rfl rfl, ⟨TX1, 4, rfl⟩, Or.inl (Tb_at 444 rfl rfl)⟩
set_option maxRecDepth 20000 in
theorem mLV_ok_36 : VOK mprog (mown 5) 94 21 4 1 := ⟨⟨"ZigzagPieces$Kinship", "join", "(III)V"⟩, prog_3_method_10_code, 7, none, k_Kin_join, 3, rfl, rfl, by decide +kernel, Tb_at 449 rfl rfl, Tb_at 450 rfl rfl, ⟨TX1, 4, rfl⟩, Or.inl (Tb_at 448 rfl rfl)⟩
set_option maxRecDepth 20000 in
theorem mLV_ok_37 : VOK mprog (mown 5) 98 18 4 1 := ⟨⟨"ZigzagPieces$Kinship", "part", "(III)V"⟩, prog_3_method_7_code, 5, none, k_Kin_part, 3, rfl, rfl, by decide +kernel, Tb_at 462 rfl rfl, Tb_at 463 rfl rfl, ⟨TX1, 4, rfl⟩, Or.inl (Tb_at 461 rfl rfl)⟩
set_option maxRecDepth 20000 in
theorem mLV_ok_38 : VOK mprog (mown 6) 19 56 2 6 := ⟨⟨"ZigzagPieces$Text", "letterAt", "(I)I"⟩, prog_8_method_6_code, 2, (some .int), k_Txt_letterAt, 1, rfl, rfl, by decide +kernel, Tb_at 267 rfl rfl, Tb_at 1 rfl rfl, ⟨TX6, 2, rfl⟩, Or.inl (Tb_at 265 rfl rfl)⟩
set_option maxRecDepth 20000 in
theorem mLV_ok_39 : VOK mprog (mown 7) 60 54 2 6 := ⟨⟨"ZigzagPieces$Text", "add", "(I)V"⟩, prog_8_method_4_code, 2, none, k_Txt_add, 1, rfl, rfl, by decide +kernel, Tb_at 239 rfl rfl, Tb_at 240 rfl rfl, ⟨TX6, 2, rfl⟩, Or.inl (Tb_at 238 rfl rfl)⟩
set_option maxRecDepth 20000 in
theorem mLV_ok_40 : VOK mprog (mown 7) 63 81 1 7 := ⟨⟨"ZigzagPieces", "readText", "()I"⟩, prog_1_method_26_code, 5, (some .int), k_Z_readText, 0, rfl, rfl, by decide +kernel, Tb_at 244 rfl rfl, Tb_at 0 rfl rfl, ⟨TX7, 7, rfl⟩, Or.inl (Tb_at 242 rfl rfl)⟩
set_option maxRecDepth 20000 in
theorem mLV_ok_41 : VOK mprog (mown 7) 66 82 1 7 := ⟨⟨"ZigzagPieces", "layTrial", "()V"⟩, prog_1_method_27_code, 1, none, k_Z_layTrial, 0, rfl, rfl, by decide +kernel, Tb_at 338 rfl rfl, Tb_at 3 rfl rfl, ⟨TX7, 7, rfl⟩, Or.inl (Tb_at 336 rfl rfl)⟩
set_option maxRecDepth 20000 in
theorem mLV_ok_42 : VOK mprog (mown 7) 69 53 1 6 := ⟨⟨"ZigzagPieces$Text", "empty", "()V"⟩, prog_8_method_3_code, 1, none, k_Txt_empty, 0, rfl, rfl, by decide +kernel, Tb_at 470 rfl rfl, Tb_at 471 rfl rfl, ⟨TX6, 2, rfl⟩, Or.inl (Tb_at 469 rfl rfl)⟩
set_option maxRecDepth 20000 in
theorem mLV_ok_43 : VOK mprog (mown 7) 72 52 1 6 := ⟨⟨"ZigzagPieces$Text", "length", "()I"⟩, prog_8_method_2_code, 1, (some .int), k_Txt_length, 0, rfl, rfl, by decide +kernel, Tb_at 258 rfl rfl, Tb_at 259 rfl rfl, ⟨TX6, 2, rfl⟩, Or.inl (Tb_at 257 rfl rfl)⟩
set_option maxRecDepth 20000 in
theorem mLV_ok_44 : VOK mprog (mown 7) 73 36 1 3 := ⟨⟨"ZigzagPieces$Row", "size", "()I"⟩, prog_5_method_2_code, 1, (some .int), k_Row_size, 0, rfl, rfl, by decide +kernel, Tb_at 293 rfl rfl, Tb_at 294 rfl rfl, ⟨TX3, 2, rfl⟩, Or.inl (Tb_at 292 rfl rfl)⟩
set_option maxRecDepth 20000 in
theorem mLV_ok_45 : VOK mprog (mown 7) 94 30 2 2 := ⟨⟨"ZigzagPieces$Net", "canDo", "(I)Z"⟩, prog_4_method_7_code, 4, (some .boolean), k_Net_canDo, 1, rfl, rfl, by decide +kernel, Tb_at 297 rfl rfl, Tb_at 298 rfl rfl, ⟨TX2, 3, rfl⟩, Or.inl (Tb_at 296 rfl rfl)⟩
set_option maxRecDepth 20000 in
theorem mLV_ok_46 : VOK mprog (mown 7) 99 45 2 4 := ⟨⟨"ZigzagPieces$Shelf", "put", "(LZigzagPieces$Row;)V"⟩, prog_6_method_4_code, 3, none, k_Shf_put, 1, rfl, rfl, by decide +kernel, Tb_at 520 rfl rfl, Tb_at 521 rfl rfl, ⟨TX4, 2, rfl⟩, Or.inl (Tb_at 519 rfl rfl)⟩
set_option maxRecDepth 20000 in
theorem mLV_ok_47 : VOK mprog (mown 7) 103 38 2 3 := ⟨⟨"ZigzagPieces$Row", "add", "(I)V"⟩, prog_5_method_4_code, 2, none, k_Row_add, 1, rfl, rfl, by decide +kernel, Tb_at 331 rfl rfl, Tb_at 332 rfl rfl, ⟨TX3, 2, rfl⟩, Or.inl (Tb_at 330 rfl rfl)⟩
set_option maxRecDepth 20000 in
theorem mLV_ok_48 : VOK mprog (mown 7) 104 83 1 7 := ⟨⟨"ZigzagPieces", "tellAnew", "()V"⟩, prog_1_method_28_code, 1, none, k_Z_tellAnew, 0, rfl, rfl, by decide +kernel, Tb_at 356 rfl rfl, Tb_at 4 rfl rfl, ⟨TX7, 7, rfl⟩, Or.inl (Tb_at 354 rfl rfl)⟩
set_option maxRecDepth 20000 in
theorem mLV_ok_49 : VOK mprog (mown 7) 107 39 1 3 := ⟨⟨"ZigzagPieces$Row", "removeLast", "()V"⟩, prog_5_method_5_code, 1, none, k_Row_removeLast, 0, rfl, rfl, by decide +kernel, Tb_at 537 rfl rfl, Tb_at 538 rfl rfl, ⟨TX3, 2, rfl⟩, Or.inl (Tb_at 536 rfl rfl)⟩
set_option maxRecDepth 20000 in
theorem mLV_ok_50 : VOK mprog (mown 7) 110 84 2 7 := ⟨⟨"ZigzagPieces", "tryExchange", "(I)Z"⟩, prog_1_method_29_code, 2, (some .boolean), k_Z_tryExchange, 1, rfl, rfl, by decide +kernel, Tb_at 546 rfl rfl, Tb_at 12 rfl rfl, ⟨TX7, 7, rfl⟩, Or.inl (Tb_at 544 rfl rfl)⟩
set_option maxRecDepth 20000 in
theorem mLV_ok_51 : VOK mprog (mown 7) 117 10 2 0 := ⟨⟨"ZigzagPieces$Bars", "withoutPartnerIn", "(LZigzagPieces$Bars;)I"⟩, prog_2_method_12_code, 6, (some .int), k_Bars_withoutPartnerIn, 1, rfl, rfl, by decide +kernel, Tb_at 553 rfl rfl, Tb_at 554 rfl rfl, ⟨TX0, 4, rfl⟩, Or.inl (Tb_at 552 rfl rfl)⟩
set_option maxRecDepth 20000 in
theorem mLV_ok_52 : VOK mprog (mown 7) 123 42 2 3 := ⟨⟨"ZigzagPieces$Row", "copy", "(LZigzagPieces$Row;)V"⟩, prog_5_method_8_code, 3, none, k_Row_copy, 1, rfl, rfl, by decide +kernel, Tb_at 341 rfl rfl, Tb_at 342 rfl rfl, ⟨TX3, 2, rfl⟩, Or.inl (Tb_at 340 rfl rfl)⟩
set_option maxRecDepth 20000 in
theorem mLV_ok_53 : VOK mprog (mown 7) 126 26 1 2 := ⟨⟨"ZigzagPieces$Net", "points", "()I"⟩, prog_4_method_3_code, 1, (some .int), k_Net_points, 0, rfl, rfl, by decide +kernel, Tb_at 400 rfl rfl, Tb_at 401 rfl rfl, ⟨TX2, 3, rfl⟩, Or.inl (Tb_at 560 rfl rfl)⟩
set_option maxRecDepth 20000 in
theorem mLV_ok_54 : VOK mprog (mown 7) 129 37 1 3 := ⟨⟨"ZigzagPieces$Row", "empty", "()V"⟩, prog_5_method_3_code, 1, none, k_Row_empty, 0, rfl, rfl, by decide +kernel, Tb_at 254 rfl rfl, Tb_at 255 rfl rfl, ⟨TX3, 2, rfl⟩, Or.inl (Tb_at 253 rfl rfl)⟩
set_option maxRecDepth 20000 in
theorem mLV_ok_55 : VOK mprog (mown 7) 130 40 2 3 := ⟨⟨"ZigzagPieces$Row", "actAt", "(I)I"⟩, prog_5_method_6_code, 2, (some .int), k_Row_actAt, 1, rfl, rfl, by decide +kernel, Tb_at 346 rfl rfl, Tb_at 347 rfl rfl, ⟨TX3, 2, rfl⟩, Or.inl (Tb_at 561 rfl rfl)⟩
set_option maxRecDepth 20000 in
theorem mLV_ok_56 : VOK mprog (mown 7) 137 27 1 2 := ⟨⟨"ZigzagPieces$Net", "edges", "()I"⟩, prog_4_method_4_code, 1, (some .int), k_Net_edges, 0, rfl, rfl, by decide +kernel, Tb_at 572 rfl rfl, Tb_at 573 rfl rfl, ⟨TX2, 3, rfl⟩, Or.inl (Tb_at 571 rfl rfl)⟩
set_option maxRecDepth 20000 in
theorem mLV_ok_57 : VOK mprog (mown 7) 145 85 1 7 := ⟨⟨"ZigzagPieces", "addEdgesGoing", "()V"⟩, prog_1_method_30_code, 3, none, k_Z_addEdgesGoing, 0, rfl, rfl, by decide +kernel, Tb_at 583 rfl rfl, Tb_at 13 rfl rfl, ⟨TX7, 7, rfl⟩, Or.inl (Tb_at 581 rfl rfl)⟩
set_option maxRecDepth 20000 in
theorem mLV_ok_58 : VOK mprog (mown 7) 148 86 1 7 := ⟨⟨"ZigzagPieces", "addPointsGoing", "()V"⟩, prog_1_method_31_code, 2, none, k_Z_addPointsGoing, 0, rfl, rfl, by decide +kernel, Tb_at 588 rfl rfl, Tb_at 14 rfl rfl, ⟨TX7, 7, rfl⟩, Or.inl (Tb_at 586 rfl rfl)⟩
set_option maxRecDepth 20000 in
theorem mLV_ok_59 : VOK mprog (mown 7) 151 46 1 4 := ⟨⟨"ZigzagPieces$Shelf", "last", "()LZigzagPieces$Row;"⟩, prog_6_method_5_code, 1, (some (.object "ZigzagPieces$Row")), k_Shf_last, 0, rfl, rfl, by decide +kernel, Tb_at 528 rfl rfl, Tb_at 529 rfl rfl, ⟨TX4, 2, rfl⟩, Or.inl (Tb_at 595 rfl rfl)⟩
set_option maxRecDepth 20000 in
theorem mLV_ok_60 : VOK mprog (mown 7) 155 47 1 4 := ⟨⟨"ZigzagPieces$Shelf", "removeLast", "()V"⟩, prog_6_method_6_code, 1, none, k_Shf_removeLast, 0, rfl, rfl, by decide +kernel, Tb_at 597 rfl rfl, Tb_at 598 rfl rfl, ⟨TX4, 2, rfl⟩, Or.inl (Tb_at 596 rfl rfl)⟩
set_option maxRecDepth 20000 in
theorem mLV_ok_61 : VOK mprog (mown 7) 156 43 1 4 := ⟨⟨"ZigzagPieces$Shelf", "size", "()I"⟩, prog_6_method_2_code, 1, (some .int), k_Shf_size, 0, rfl, rfl, by decide +kernel, Tb_at 601 rfl rfl, Tb_at 602 rfl rfl, ⟨TX4, 2, rfl⟩, Or.inl (Tb_at 600 rfl rfl)⟩
set_option maxRecDepth 20000 in
theorem mLV_ok_62 : VOK mprog (mown 7) 173 49 3 5 := ⟨⟨"ZigzagPieces$Story", "play", "(LZigzagPieces$Row;I)Z"⟩, prog_7_method_2_code, 5, (some .boolean), k_Sto_play, 2, rfl, rfl, by decide +kernel, Tb_at 359 rfl rfl, Tb_at 360 rfl rfl, ⟨TX5, 3, rfl⟩, Or.inl (Tb_at 358 rfl rfl)⟩
set_option maxRecDepth 20000 in
theorem mLV_ok_63 : VOK mprog (mown 7) 177 33 1 2 := ⟨⟨"ZigzagPieces$Net", "pieces", "()I"⟩, prog_4_method_10_code, 4, (some .int), k_Net_pieces, 0, rfl, rfl, by decide +kernel, Tb_at 623 rfl rfl, Tb_at 624 rfl rfl, ⟨TX2, 3, rfl⟩, Or.inl (Tb_at 622 rfl rfl)⟩
set_option maxRecDepth 20000 in
theorem mLV_ok_64 : VOK mprog (mown 7) 180 34 1 2 := ⟨⟨"ZigzagPieces$Net", "loops", "()I"⟩, prog_4_method_11_code, 1, (some .int), k_Net_loops, 0, rfl, rfl, by decide +kernel, Tb_at 628 rfl rfl, Tb_at 629 rfl rfl, ⟨TX2, 3, rfl⟩, Or.inl (Tb_at 627 rfl rfl)⟩
set_option maxRecDepth 20000 in
theorem mLV_ok_65 : VOK mprog (mown 7) 183 28 2 2 := ⟨⟨"ZigzagPieces$Net", "has", "(I)Z"⟩, prog_4_method_5_code, 2, (some .boolean), k_Net_has, 1, rfl, rfl, by decide +kernel, Tb_at 311 rfl rfl, Tb_at 312 rfl rfl, ⟨TX2, 3, rfl⟩, Or.inl (Tb_at 590 rfl rfl)⟩
set_option maxRecDepth 20000 in
theorem mLV_ok_66 : VOK mprog (mown 7) 186 32 2 2 := ⟨⟨"ZigzagPieces$Net", "pieceOf", "(I)I"⟩, prog_4_method_9_code, 6, (some .int), k_Net_pieceOf, 1, rfl, rfl, by decide +kernel, Tb_at 381 rfl rfl, Tb_at 382 rfl rfl, ⟨TX2, 3, rfl⟩, Or.inl (Tb_at 637 rfl rfl)⟩
set_option maxRecDepth 20000 in
theorem mLV_ok_67 : VOK mprog (mown 7) 196 14 2 1 := ⟨⟨"ZigzagPieces$Kinship", "rootOf", "(I)I"⟩, prog_3_method_3_code, 2, (some .int), k_Kin_rootOf, 1, rfl, rfl, by decide +kernel, Tb_at 414 rfl rfl, Tb_at 415 rfl rfl, ⟨TX1, 4, rfl⟩, Or.inl (Tb_at 643 rfl rfl)⟩
set_option maxRecDepth 20000 in
theorem mLV_ok_68 : VOK mprog (mown 7) 205 15 3 1 := ⟨⟨"ZigzagPieces$Kinship", "sinceOf", "(II)I"⟩, prog_3_method_4_code, 3, (some .int), k_Kin_sinceOf, 2, rfl, rfl, by decide +kernel, Tb_at 409 rfl rfl, Tb_at 410 rfl rfl, ⟨TX1, 4, rfl⟩, Or.inl (Tb_at 649 rfl rfl)⟩
set_option maxRecDepth 20000 in
theorem mLV_ok_69 : VOK mprog (mown 7) 208 1 1 0 := ⟨⟨"ZigzagPieces$Bars", "size", "()I"⟩, prog_2_method_3_code, 1, (some .int), k_Bars_size, 0, rfl, rfl, by decide +kernel, Tb_at 655 rfl rfl, Tb_at 656 rfl rfl, ⟨TX0, 4, rfl⟩, Or.inl (Tb_at 654 rfl rfl)⟩
set_option maxRecDepth 20000 in
theorem mLV_ok_70 : VOK mprog (mown 7) 209 2 1 0 := ⟨⟨"ZigzagPieces$Bars", "open", "()I"⟩, prog_2_method_4_code, 1, (some .int), k_Bars_open, 0, rfl, rfl, by decide +kernel, Tb_at 659 rfl rfl, Tb_at 660 rfl rfl, ⟨TX0, 4, rfl⟩, Or.inl (Tb_at 658 rfl rfl)⟩
set_option maxRecDepth 20000 in
theorem mLV_ok_71 : VOK mprog (mown 7) 212 4 2 0 := ⟨⟨"ZigzagPieces$Bars", "beginOf", "(I)I"⟩, prog_2_method_6_code, 2, (some .int), k_Bars_beginOf, 1, rfl, rfl, by decide +kernel, Tb_at 426 rfl rfl, Tb_at 427 rfl rfl, ⟨TX0, 4, rfl⟩, Or.inl (Tb_at 662 rfl rfl)⟩
set_option maxRecDepth 20000 in
theorem mLV_ok_72 : VOK mprog (mown 7) 215 5 2 0 := ⟨⟨"ZigzagPieces$Bars", "endOf", "(I)I"⟩, prog_2_method_7_code, 2, (some .int), k_Bars_endOf, 1, rfl, rfl, by decide +kernel, Tb_at 433 rfl rfl, Tb_at 434 rfl rfl, ⟨TX0, 4, rfl⟩, Or.inl (Tb_at 663 rfl rfl)⟩
set_option maxRecDepth 20000 in
theorem mLV_ok_73 : VOK mprog (mown 7) 218 6 3 0 := ⟨⟨"ZigzagPieces$Bars", "lengthOf", "(II)I"⟩, prog_2_method_8_code, 3, (some .int), k_Bars_lengthOf, 2, rfl, rfl, by decide +kernel, Tb_at 665 rfl rfl, Tb_at 666 rfl rfl, ⟨TX0, 4, rfl⟩, Or.inl (Tb_at 664 rfl rfl)⟩
set_option maxRecDepth 20000 in
theorem mLV_ok_74 : VOK mprog (mown 7) 221 9 4 0 := ⟨⟨"ZigzagPieces$Bars", "spanning", "(III)I"⟩, prog_2_method_11_code, 6, (some .int), k_Bars_spanning, 3, rfl, rfl, by decide +kernel, Tb_at 677 rfl rfl, Tb_at 678 rfl rfl, ⟨TX0, 4, rfl⟩, Or.inl (Tb_at 676 rfl rfl)⟩
set_option maxRecDepth 20000 in
theorem mLV_ok_75 : VOK mprog (mown 7) 224 8 3 0 := ⟨⟨"ZigzagPieces$Bars", "atLeast", "(II)I"⟩, prog_2_method_10_code, 5, (some .int), k_Bars_atLeast, 2, rfl, rfl, by decide +kernel, Tb_at 685 rfl rfl, Tb_at 686 rfl rfl, ⟨TX0, 4, rfl⟩, Or.inl (Tb_at 684 rfl rfl)⟩
set_option maxRecDepth 20000 in
theorem mLV_ok_76 : VOK mprog (mown 7) 227 7 2 0 := ⟨⟨"ZigzagPieces$Bars", "longest", "(I)I"⟩, prog_2_method_9_code, 4, (some .int), k_Bars_longest, 1, rfl, rfl, by decide +kernel, Tb_at 694 rfl rfl, Tb_at 695 rfl rfl, ⟨TX0, 4, rfl⟩, Or.inl (Tb_at 693 rfl rfl)⟩
set_option maxRecDepth 20000 in
theorem mLV_ok_77 : VOK mprog (mown 7) 230 44 1 4 := ⟨⟨"ZigzagPieces$Shelf", "empty", "()V"⟩, prog_6_method_3_code, 1, none, k_Shf_empty, 0, rfl, rfl, by decide +kernel, Tb_at 351 rfl rfl, Tb_at 352 rfl rfl, ⟨TX4, 2, rfl⟩, Or.inl (Tb_at 350 rfl rfl)⟩
set_option maxRecDepth 20000 in
theorem mLV_ok_78 : VOK mprog (mown 7) 231 25 1 2 := ⟨⟨"ZigzagPieces$Net", "empty", "()V"⟩, prog_4_method_2_code, 1, none, k_Net_empty, 0, rfl, rfl, by decide +kernel, Tb_at 247 rfl rfl, Tb_at 248 rfl rfl, ⟨TX2, 3, rfl⟩, Or.inl (Tb_at 246 rfl rfl)⟩
set_option maxRecDepth 20000 in
theorem mLV_ok_79 : VOK mprog (mown 7) 232 55 2 6 := ⟨⟨"ZigzagPieces$Text", "actAt", "(I)I"⟩, prog_8_method_5_code, 6, (some .int), k_Txt_actAt, 1, rfl, rfl, by decide +kernel, Tb_at 262 rfl rfl, Tb_at 263 rfl rfl, ⟨TX6, 2, rfl⟩, Or.inl (Tb_at 261 rfl rfl)⟩
set_option maxRecDepth 20000 in
theorem mLV_ok_80 : VOK mprog (mown 7) 233 31 2 2 := ⟨⟨"ZigzagPieces$Net", "change", "(I)V"⟩, prog_4_method_8_code, 4, none, k_Net_change, 1, rfl, rfl, by decide +kernel, Tb_at 326 rfl rfl, Tb_at 327 rfl rfl, ⟨TX2, 3, rfl⟩, Or.inl (Tb_at 325 rfl rfl)⟩
set_option maxRecDepth 20000 in
theorem mLV_ok_81 : VOK mprog (mown 7) 236 41 2 3 := ⟨⟨"ZigzagPieces$Row", "swapWithNext", "(I)V"⟩, prog_5_method_7_code, 3, none, k_Row_swapWithNext, 1, rfl, rfl, by decide +kernel, Tb_at 549 rfl rfl, Tb_at 550 rfl rfl, ⟨TX3, 2, rfl⟩, Or.inl (Tb_at 548 rfl rfl)⟩
set_option maxRecDepth 20000 in
theorem mLV_ok_82 : VOK mprog (mown 7) 239 29 3 2 := ⟨⟨"ZigzagPieces$Net", "joined", "(II)Z"⟩, prog_4_method_6_code, 3, (some .boolean), k_Net_joined, 2, rfl, rfl, by decide +kernel, Tb_at 322 rfl rfl, Tb_at 323 rfl rfl, ⟨TX2, 3, rfl⟩, Or.inl (Tb_at 585 rfl rfl)⟩
set_option maxRecDepth 20000 in
theorem mLV_ok_83 : VOK mprog (mown 8) 77 110 3 8 := ⟨⟨"ZigzagPiecesModel", "kinOf", "(II)I"⟩, prog_10_method_12_code, 3, (some .int), k_M_kinOf, 2, rfl, rfl, by decide +kernel, Tb_at 859 rfl rfl, Tb_at 26 rfl rfl, ⟨TX8, 22, rfl⟩, Or.inl (Tb_at 857 rfl rfl)⟩
set_option maxRecDepth 20000 in
theorem mLV_ok_84 : VOK mprog (mown 8) 81 112 3 8 := ⟨⟨"ZigzagPiecesModel", "ends", "(II)V"⟩, prog_10_method_14_code, 3, none, k_M_ends, 2, rfl, rfl, by decide +kernel, Tb_at 863 rfl rfl, Tb_at 27 rfl rfl, ⟨TX8, 22, rfl⟩, Or.inl (Tb_at 861 rfl rfl)⟩
set_option maxRecDepth 20000 in
theorem mLV_ok_85 : VOK mprog (mown 8) 85 109 1 8 := ⟨⟨"ZigzagPiecesModel", "freePiece", "()I"⟩, prog_10_method_11_code, 2, (some .int), k_M_freePiece, 0, rfl, rfl, by decide +kernel, Tb_at 847 rfl rfl, Tb_at 23 rfl rfl, ⟨TX8, 22, rfl⟩, Or.inl (Tb_at 845 rfl rfl)⟩
set_option maxRecDepth 20000 in
theorem mLV_ok_86 : VOK mprog (mown 8) 89 111 4 8 := ⟨⟨"ZigzagPiecesModel", "makesKin", "(III)V"⟩, prog_10_method_13_code, 4, none, k_M_makesKin, 3, rfl, rfl, by decide +kernel, Tb_at 851 rfl rfl, Tb_at 24 rfl rfl, ⟨TX8, 22, rfl⟩, Or.inl (Tb_at 849 rfl rfl)⟩
set_option maxRecDepth 20000 in
theorem mLV_ok_87 : VOK mprog (mown 8) 93 108 2 8 := ⟨⟨"ZigzagPiecesModel", "reach", "(I)I"⟩, prog_10_method_10_code, 5, (some .int), k_M_reach, 1, rfl, rfl, by decide +kernel, Tb_at 879 rfl rfl, Tb_at 31 rfl rfl, ⟨TX8, 22, rfl⟩, Or.inl (Tb_at 877 rfl rfl)⟩
set_option maxRecDepth 20000 in
theorem mLV_ok_88 : VOK mprog (mown 8) 96 116 4 8 := ⟨⟨"ZigzagPiecesModel", "bindsNear", "(III)V"⟩, prog_10_method_18_code, 7, none, k_M_bindsNear, 3, rfl, rfl, by decide +kernel, Tb_at 871 rfl rfl, Tb_at 29 rfl rfl, ⟨TX8, 22, rfl⟩, Or.inl (Tb_at 869 rfl rfl)⟩
set_option maxRecDepth 20000 in
theorem mLV_ok_89 : VOK mprog (mown 8) 99 114 3 8 := ⟨⟨"ZigzagPiecesModel", "comes", "(II)V"⟩, prog_10_method_16_code, 5, none, k_M_comes, 2, rfl, rfl, by decide +kernel, Tb_at 843 rfl rfl, Tb_at 22 rfl rfl, ⟨TX8, 22, rfl⟩, Or.inl (Tb_at 841 rfl rfl)⟩
set_option maxRecDepth 20000 in
theorem mLV_ok_90 : VOK mprog (mown 8) 102 113 3 8 := ⟨⟨"ZigzagPiecesModel", "goes", "(II)V"⟩, prog_10_method_15_code, 5, none, k_M_goes, 2, rfl, rfl, by decide +kernel, Tb_at 855 rfl rfl, Tb_at 25 rfl rfl, ⟨TX8, 22, rfl⟩, Or.inl (Tb_at 853 rfl rfl)⟩
set_option maxRecDepth 20000 in
theorem mLV_ok_91 : VOK mprog (mown 8) 105 117 4 8 := ⟨⟨"ZigzagPiecesModel", "joins", "(III)V"⟩, prog_10_method_19_code, 11, none, k_M_joins, 3, rfl, rfl, by decide +kernel, Tb_at 867 rfl rfl, Tb_at 28 rfl rfl, ⟨TX8, 22, rfl⟩, Or.inl (Tb_at 865 rfl rfl)⟩
set_option maxRecDepth 20000 in
theorem mLV_ok_92 : VOK mprog (mown 8) 108 115 4 8 := ⟨⟨"ZigzagPiecesModel", "parts", "(III)V"⟩, prog_10_method_17_code, 8, none, k_M_parts, 3, rfl, rfl, by decide +kernel, Tb_at 875 rfl rfl, Tb_at 30 rfl rfl, ⟨TX8, 22, rfl⟩, Or.inl (Tb_at 873 rfl rfl)⟩
set_option maxRecDepth 20000 in
theorem mLV_ok_93 : VOK mprog (mown 8) 111 119 1 8 := ⟨⟨"ZigzagPiecesModel", "begins", "()V"⟩, prog_10_method_21_code, 2, none, k_M_begins, 0, rfl, rfl, by decide +kernel, Tb_at 808 rfl rfl, Tb_at 17 rfl rfl, ⟨TX8, 22, rfl⟩, Or.inl (Tb_at 806 rfl rfl)⟩
set_option maxRecDepth 20000 in
theorem mLV_ok_94 : VOK mprog (mown 8) 114 107 2 8 := ⟨⟨"ZigzagPiecesModel", "may", "(I)Z"⟩, prog_10_method_9_code, 4, (some .boolean), k_M_may, 1, rfl, rfl, by decide +kernel, Tb_at 823 rfl rfl, Tb_at 20 rfl rfl, ⟨TX8, 22, rfl⟩, Or.inl (Tb_at 821 rfl rfl)⟩
set_option maxRecDepth 20000 in
theorem mLV_ok_95 : VOK mprog (mown 8) 118 118 3 8 := ⟨⟨"ZigzagPiecesModel", "does", "(II)V"⟩, prog_10_method_20_code, 5, none, k_M_does, 2, rfl, rfl, by decide +kernel, Tb_at 839 rfl rfl, Tb_at 21 rfl rfl, ⟨TX8, 22, rfl⟩, Or.inl (Tb_at 837 rfl rfl)⟩
set_option maxRecDepth 20000 in
theorem mLV_ok_96 : VOK mprog (mown 8) 121 120 2 8 := ⟨⟨"ZigzagPiecesModel", "runs", "(I)Z"⟩, prog_10_method_22_code, 3, (some .boolean), k_M_runs, 1, rfl, rfl, by decide +kernel, Tb_at 891 rfl rfl, Tb_at 32 rfl rfl, ⟨TX8, 22, rfl⟩, Or.inl (Tb_at 889 rfl rfl)⟩
set_option maxRecDepth 20000 in
theorem mLV_ok_97 : VOK mprog (mown 8) 124 121 2 8 := ⟨⟨"ZigzagPiecesModel", "lowestOf", "(I)I"⟩, prog_10_method_23_code, 3, (some .int), k_M_lowestOf, 1, rfl, rfl, by decide +kernel, Tb_at 911 rfl rfl, Tb_at 35 rfl rfl, ⟨TX8, 22, rfl⟩, Or.inl (Tb_at 909 rfl rfl)⟩
set_option maxRecDepth 20000 in
theorem mLV_ok_98 : VOK mprog (mown 8) 140 128 2 8 := ⟨⟨"ZigzagPiecesModel", "figureAt", "(I)I"⟩, prog_10_method_30_code, 2, (some .int), k_M_figureAt, 1, rfl, rfl, by decide +kernel, Tb_at 816 rfl rfl, Tb_at 19 rfl rfl, ⟨TX8, 22, rfl⟩, Or.inl (Tb_at 814 rfl rfl)⟩
set_option maxRecDepth 20000 in
theorem mLV_ok_99 : VOK mprog (mown 8) 147 129 1 8 := ⟨⟨"ZigzagPiecesModel", "item", "()I"⟩, prog_10_method_31_code, 6, (some .int), k_M_item, 0, rfl, rfl, by decide +kernel, Tb_at 812 rfl rfl, Tb_at 18 rfl rfl, ⟨TX8, 22, rfl⟩, Or.inl (Tb_at 810 rfl rfl)⟩
set_option maxRecDepth 20000 in
theorem mLV_ok_100 : VOK mprog (mown 8) 150 130 1 8 := ⟨⟨"ZigzagPiecesModel", "reads", "()I"⟩, prog_10_method_32_code, 3, (some .int), k_M_reads, 0, rfl, rfl, by decide +kernel, Tb_at 804 rfl rfl, Tb_at 16 rfl rfl, ⟨TX8, 22, rfl⟩, Or.inl (Tb_at 802 rfl rfl)⟩
set_option maxRecDepth 20000 in
theorem mLV_ok_101 : VOK mprog (mown 8) 156 133 1 8 := ⟨⟨"ZigzagPiecesModel", "notes", "()V"⟩, prog_10_method_35_code, 2, none, k_M_notes, 0, rfl, rfl, by decide +kernel, Tb_at 895 rfl rfl, Tb_at 33 rfl rfl, ⟨TX8, 22, rfl⟩, Or.inl (Tb_at 893 rfl rfl)⟩
set_option maxRecDepth 20000 in
theorem mLV_ok_102 : VOK mprog (mown 8) 162 122 1 8 := ⟨⟨"ZigzagPiecesModel", "runsAll", "()Z"⟩, prog_10_method_24_code, 5, (some .boolean), k_M_runsAll, 0, rfl, rfl, by decide +kernel, Tb_at 907 rfl rfl, Tb_at 34 rfl rfl, ⟨TX8, 22, rfl⟩, Or.inl (Tb_at 905 rfl rfl)⟩
set_option maxRecDepth 20000 in
theorem mLV_ok_103 : VOK mprog (mown 8) 166 136 1 8 := ⟨⟨"ZigzagPiecesModel", "sets", "()V"⟩, prog_10_method_38_code, 2, none, k_M_sets, 0, rfl, rfl, by decide +kernel, Tb_at 915 rfl rfl, Tb_at 36 rfl rfl, ⟨TX8, 22, rfl⟩, Or.inl (Tb_at 913 rfl rfl)⟩
set_option maxRecDepth 20000 in
theorem mLV_ok_104 : VOK mprog (mown 8) 169 138 2 8 := ⟨⟨"ZigzagPiecesModel", "swaps", "(I)V"⟩, prog_10_method_40_code, 3, none, k_M_swaps, 1, rfl, rfl, by decide +kernel, Tb_at 919 rfl rfl, Tb_at 37 rfl rfl, ⟨TX8, 22, rfl⟩, Or.inl (Tb_at 917 rfl rfl)⟩
set_option maxRecDepth 20000 in
theorem mLV_ok_105 : VOK mprog (mown 8) 173 137 1 8 := ⟨⟨"ZigzagPiecesModel", "others", "()I"⟩, prog_10_method_39_code, 5, (some .int), k_M_others, 0, rfl, rfl, by decide +kernel, Tb_at 923 rfl rfl, Tb_at 38 rfl rfl, ⟨TX8, 22, rfl⟩, Or.inl (Tb_at 921 rfl rfl)⟩
set_option maxRecDepth 20000 in
theorem mLV_ok_106 : VOK mprog (mown 8) 176 125 1 8 := ⟨⟨"ZigzagPiecesModel", "edges", "()I"⟩, prog_10_method_27_code, 3, (some .int), k_M_edges, 0, rfl, rfl, by decide +kernel, Tb_at 935 rfl rfl, Tb_at 39 rfl rfl, ⟨TX8, 22, rfl⟩, Or.inl (Tb_at 933 rfl rfl)⟩
set_option maxRecDepth 20000 in
theorem mLV_ok_107 : VOK mprog (mown 8) 179 143 3 8 := ⟨⟨"ZigzagPiecesModel", "letterOf", "(II)I"⟩, prog_10_method_45_code, 4, (some .int), k_M_letterOf, 2, rfl, rfl, by decide +kernel, Tb_at 950 rfl rfl, Tb_at 40 rfl rfl, ⟨TX8, 22, rfl⟩, Or.inl (Tb_at 948 rfl rfl)⟩
set_option maxRecDepth 20000 in
theorem mLV_ok_108 : VOK mprog (mown 8) 182 150 1 8 := ⟨⟨"ZigzagPiecesModel", "open", "()I"⟩, prog_10_method_52_code, 3, (some .int), k_M_open, 0, rfl, rfl, by decide +kernel, Tb_at 978 rfl rfl, Tb_at 41 rfl rfl, ⟨TX8, 22, rfl⟩, Or.inl (Tb_at 976 rfl rfl)⟩
set_option maxRecDepth 20000 in
theorem mLV_ok_109 : VOK mprog (mown 8) 185 123 2 8 := ⟨⟨"ZigzagPiecesModel", "lengthOf", "(I)I"⟩, prog_10_method_25_code, 2, (some .int), k_M_lengthOf, 1, rfl, rfl, by decide +kernel, Tb_at 982 rfl rfl, Tb_at 42 rfl rfl, ⟨TX8, 22, rfl⟩, Or.inl (Tb_at 980 rfl rfl)⟩
set_option maxRecDepth 20000 in
theorem mLV_ok_110 : VOK mprog (mown 8) 188 154 1 8 := ⟨⟨"ZigzagPiecesModel", "longest", "()I"⟩, prog_10_method_56_code, 3, (some .int), k_M_longest, 0, rfl, rfl, by decide +kernel, Tb_at 998 rfl rfl, Tb_at 43 rfl rfl, ⟨TX8, 22, rfl⟩, Or.inl (Tb_at 996 rfl rfl)⟩
set_option maxRecDepth 20000 in
theorem mLV_ok_111 : VOK mprog (mown 8) 194 157 1 8 := ⟨⟨"ZigzagPiecesModel", "turnsOver", "()V"⟩, prog_10_method_59_code, 3, none, k_M_turnsOver, 0, rfl, rfl, by decide +kernel, Tb_at 1010 rfl rfl, Tb_at 44 rfl rfl, ⟨TX8, 22, rfl⟩, Or.inl (Tb_at 1008 rfl rfl)⟩
theorem mLV_ok : ∀ q ∈ mLV, VOK mprog (mown q.1) q.2.1 q.2.2.1 q.2.2.2.1 q.2.2.2.2 := List.forall_mem_cons.mpr ⟨mLV_ok_0, List.forall_mem_cons.mpr ⟨mLV_ok_1, List.forall_mem_cons.mpr ⟨mLV_ok_2, List.forall_mem_cons.mpr ⟨mLV_ok_3, List.forall_mem_cons.mpr ⟨mLV_ok_4, List.forall_mem_cons.mpr ⟨mLV_ok_5, List.forall_mem_cons.mpr ⟨mLV_ok_6, List.forall_mem_cons.mpr ⟨mLV_ok_7, List.forall_mem_cons.mpr ⟨mLV_ok_8, List.forall_mem_cons.mpr ⟨mLV_ok_9, List.forall_mem_cons.mpr ⟨mLV_ok_10, List.forall_mem_cons.mpr ⟨mLV_ok_11, List.forall_mem_cons.mpr ⟨mLV_ok_12, List.forall_mem_cons.mpr ⟨mLV_ok_13, List.forall_mem_cons.mpr ⟨mLV_ok_14, List.forall_mem_cons.mpr ⟨mLV_ok_15, List.forall_mem_cons.mpr ⟨mLV_ok_16, List.forall_mem_cons.mpr ⟨mLV_ok_17, List.forall_mem_cons.mpr ⟨mLV_ok_18, List.forall_mem_cons.mpr ⟨mLV_ok_19, List.forall_mem_cons.mpr ⟨mLV_ok_20, List.forall_mem_cons.mpr ⟨mLV_ok_21, List.forall_mem_cons.mpr ⟨mLV_ok_22, List.forall_mem_cons.mpr ⟨mLV_ok_23, List.forall_mem_cons.mpr ⟨mLV_ok_24, List.forall_mem_cons.mpr ⟨mLV_ok_25, List.forall_mem_cons.mpr ⟨mLV_ok_26, List.forall_mem_cons.mpr ⟨mLV_ok_27, List.forall_mem_cons.mpr ⟨mLV_ok_28, List.forall_mem_cons.mpr ⟨mLV_ok_29, List.forall_mem_cons.mpr ⟨mLV_ok_30, List.forall_mem_cons.mpr ⟨mLV_ok_31, List.forall_mem_cons.mpr ⟨mLV_ok_32, List.forall_mem_cons.mpr ⟨mLV_ok_33, List.forall_mem_cons.mpr ⟨mLV_ok_34, List.forall_mem_cons.mpr ⟨mLV_ok_35, List.forall_mem_cons.mpr ⟨mLV_ok_36, List.forall_mem_cons.mpr ⟨mLV_ok_37, List.forall_mem_cons.mpr ⟨mLV_ok_38, List.forall_mem_cons.mpr ⟨mLV_ok_39, List.forall_mem_cons.mpr ⟨mLV_ok_40, List.forall_mem_cons.mpr ⟨mLV_ok_41, List.forall_mem_cons.mpr ⟨mLV_ok_42, List.forall_mem_cons.mpr ⟨mLV_ok_43, List.forall_mem_cons.mpr ⟨mLV_ok_44, List.forall_mem_cons.mpr ⟨mLV_ok_45, List.forall_mem_cons.mpr ⟨mLV_ok_46, List.forall_mem_cons.mpr ⟨mLV_ok_47, List.forall_mem_cons.mpr ⟨mLV_ok_48, List.forall_mem_cons.mpr ⟨mLV_ok_49, List.forall_mem_cons.mpr ⟨mLV_ok_50, List.forall_mem_cons.mpr ⟨mLV_ok_51, List.forall_mem_cons.mpr ⟨mLV_ok_52, List.forall_mem_cons.mpr ⟨mLV_ok_53, List.forall_mem_cons.mpr ⟨mLV_ok_54, List.forall_mem_cons.mpr ⟨mLV_ok_55, List.forall_mem_cons.mpr ⟨mLV_ok_56, List.forall_mem_cons.mpr ⟨mLV_ok_57, List.forall_mem_cons.mpr ⟨mLV_ok_58, List.forall_mem_cons.mpr ⟨mLV_ok_59, List.forall_mem_cons.mpr ⟨mLV_ok_60, List.forall_mem_cons.mpr ⟨mLV_ok_61, List.forall_mem_cons.mpr ⟨mLV_ok_62, List.forall_mem_cons.mpr ⟨mLV_ok_63, List.forall_mem_cons.mpr ⟨mLV_ok_64, List.forall_mem_cons.mpr ⟨mLV_ok_65, List.forall_mem_cons.mpr ⟨mLV_ok_66, List.forall_mem_cons.mpr ⟨mLV_ok_67, List.forall_mem_cons.mpr ⟨mLV_ok_68, List.forall_mem_cons.mpr ⟨mLV_ok_69, List.forall_mem_cons.mpr ⟨mLV_ok_70, List.forall_mem_cons.mpr ⟨mLV_ok_71, List.forall_mem_cons.mpr ⟨mLV_ok_72, List.forall_mem_cons.mpr ⟨mLV_ok_73, List.forall_mem_cons.mpr ⟨mLV_ok_74, List.forall_mem_cons.mpr ⟨mLV_ok_75, List.forall_mem_cons.mpr ⟨mLV_ok_76, List.forall_mem_cons.mpr ⟨mLV_ok_77, List.forall_mem_cons.mpr ⟨mLV_ok_78, List.forall_mem_cons.mpr ⟨mLV_ok_79, List.forall_mem_cons.mpr ⟨mLV_ok_80, List.forall_mem_cons.mpr ⟨mLV_ok_81, List.forall_mem_cons.mpr ⟨mLV_ok_82, List.forall_mem_cons.mpr ⟨mLV_ok_83, List.forall_mem_cons.mpr ⟨mLV_ok_84, List.forall_mem_cons.mpr ⟨mLV_ok_85, List.forall_mem_cons.mpr ⟨mLV_ok_86, List.forall_mem_cons.mpr ⟨mLV_ok_87, List.forall_mem_cons.mpr ⟨mLV_ok_88, List.forall_mem_cons.mpr ⟨mLV_ok_89, List.forall_mem_cons.mpr ⟨mLV_ok_90, List.forall_mem_cons.mpr ⟨mLV_ok_91, List.forall_mem_cons.mpr ⟨mLV_ok_92, List.forall_mem_cons.mpr ⟨mLV_ok_93, List.forall_mem_cons.mpr ⟨mLV_ok_94, List.forall_mem_cons.mpr ⟨mLV_ok_95, List.forall_mem_cons.mpr ⟨mLV_ok_96, List.forall_mem_cons.mpr ⟨mLV_ok_97, List.forall_mem_cons.mpr ⟨mLV_ok_98, List.forall_mem_cons.mpr ⟨mLV_ok_99, List.forall_mem_cons.mpr ⟨mLV_ok_100, List.forall_mem_cons.mpr ⟨mLV_ok_101, List.forall_mem_cons.mpr ⟨mLV_ok_102, List.forall_mem_cons.mpr ⟨mLV_ok_103, List.forall_mem_cons.mpr ⟨mLV_ok_104, List.forall_mem_cons.mpr ⟨mLV_ok_105, List.forall_mem_cons.mpr ⟨mLV_ok_106, List.forall_mem_cons.mpr ⟨mLV_ok_107, List.forall_mem_cons.mpr ⟨mLV_ok_108, List.forall_mem_cons.mpr ⟨mLV_ok_109, List.forall_mem_cons.mpr ⟨mLV_ok_110, List.forall_mem_cons.mpr ⟨mLV_ok_111, fun _ h => absurd h List.not_mem_nil⟩⟩⟩⟩⟩⟩⟩⟩⟩⟩⟩⟩⟩⟩⟩⟩⟩⟩⟩⟩⟩⟩⟩⟩⟩⟩⟩⟩⟩⟩⟩⟩⟩⟩⟩⟩⟩⟩⟩⟩⟩⟩⟩⟩⟩⟩⟩⟩⟩⟩⟩⟩⟩⟩⟩⟩⟩⟩⟩⟩⟩⟩⟩⟩⟩⟩⟩⟩⟩⟩⟩⟩⟩⟩⟩⟩⟩⟩⟩⟩⟩⟩⟩⟩⟩⟩⟩⟩⟩⟩⟩⟩⟩⟩⟩⟩⟩⟩⟩⟩⟩⟩⟩⟩⟩⟩⟩⟩⟩⟩⟩⟩
set_option maxRecDepth 20000 in
theorem mLC_ok_0 : Cond.constant (mown 9) 264 (nI 65536) ∈ Tb := Tb_at 390 rfl rfl
set_option maxRecDepth 20000 in
theorem mLC_ok_1 : Cond.constant (mown 9) 265 (nI 1431655765) ∈ Tb := Tb_at 578 rfl rfl
set_option maxRecDepth 20000 in
theorem mLC_ok_2 : Cond.constant (mown 9) 266 (nI 858993459) ∈ Tb := Tb_at 579 rfl rfl
set_option maxRecDepth 20000 in
theorem mLC_ok_3 : Cond.constant (mown 9) 267 (nI 252645135) ∈ Tb := Tb_at 580 rfl rfl
theorem mLC_ok : ∀ q ∈ mLC, Cond.constant (mown q.1) q.2.1 (nI q.2.2) ∈ Tb := List.forall_mem_cons.mpr ⟨mLC_ok_0, List.forall_mem_cons.mpr ⟨mLC_ok_1, List.forall_mem_cons.mpr ⟨mLC_ok_2, List.forall_mem_cons.mpr ⟨mLC_ok_3, fun _ h => absurd h List.not_mem_nil⟩⟩⟩⟩
theorem lkB_ok {o pc : Nat} {e : mE} (h : lkB o pc e = true) : lkOK mprog (mown o) pc e := by
  obtain ⟨i, nx, x, y, z⟩ := e
  cases i with
  | getfield idx => exact mLF_ok (o, idx, x, y) (of_decide_eq_true h)
  | putfield idx => exact mLP_ok (o, idx, x, y) (of_decide_eq_true h)
  | invokestatic idx => exact mLS_ok (o, idx, x, y, z) (of_decide_eq_true h)
  | invokevirtual idx => exact mLV_ok (o, idx, x, y, z) (of_decide_eq_true h)
  | ldc_w idx => exact mLC_ok (o, idx, x) (of_decide_eq_true h)
  | goto f => exact of_decide_eq_true (p := (pc : Int) + f = (x : Int)) h
  | ifCond _ f => exact of_decide_eq_true (p := (pc : Int) + f = (x : Int)) h
  | if_icmp _ f => exact of_decide_eq_true (p := (pc : Int) + f = (x : Int)) h
  | ifnull f => exact of_decide_eq_true (p := (pc : Int) + f = (x : Int)) h
  | ifnonnull f => exact of_decide_eq_true (p := (pc : Int) + f = (x : Int)) h
  | tableswitch d lo hi offs => exact of_decide_eq_true (p := 0 ≤ (pc : Int) + d ∧ hi - lo + 1 = (offs.size : Int) ∧ ∀ f ∈ offs.toList, 0 ≤ (pc : Int) + f) h
  | lookupswitch d ps => exact of_decide_eq_true (p := 0 ≤ (pc : Int) + d ∧ (ps.toList.zip (ps.toList.drop 1)).all (fun (a, next) => a.1 < next.1) = true ∧ ∀ q ∈ ps.toList, 0 ≤ (pc : Int) + q.2) h
  | _ => exact trivial
theorem chkB_ok {b : ByteArray} {o : Nat} {q : Nat × mE} (h : chkB b o q = true) : insOK mprog (mown o) b q.1 q.2 := by
  unfold chkB at h
  rw [Bool.and_eq_true] at h
  obtain ⟨h1, h2⟩ := h
  refine ⟨?_, lkB_ok h2⟩
  split at h1
  next i len hd =>
    simp only [Bool.and_eq_true, decide_eq_true_eq] at h1
    obtain ⟨⟨g1, g2⟩, g3⟩ := h1
    subst g1
    exact ⟨len, hd, Nat.eq_of_beq_eq_true g2, ilB_ok g3⟩
  next => cases h1
theorem mOK_of {q : mM} (o : Nat) (hc : Cond.code q.1 q.2.1 q.2.2.1 q.2.2.2.1 ∈ Tb) (hi : Cond.initialized q.1.cls ∈ Tb) (hp : plainName q.1.cls = true) (hm : q.1.cls ≠ "java/lang/invoke/MethodHandle" ∧ q.1.cls ≠ "java/lang/invoke/VarHandle") (hl : q.2.2.1 ≤ 11) (ho : q.1.cls = mown o) (hk : q.2.2.2.2.all (chkB q.2.1 o) = true) : mOK mprog q :=
  ⟨hc, hi, hp, hm.1, hm.2, hl, fun z hz => by rw [ho]; exact chkB_ok (List.all_eq_true.mp hk z hz)⟩
end
section
set_option maxRecDepth 20000 in
theorem ok_Bars_empty : mOK mprog q_Bars_empty := mOK_of 0 (Tb_at 371 rfl rfl) (Tb_at 54 rfl rfl) (by decide +kernel) (by decide +kernel) (by decide) rfl (by decide +kernel)
set_option maxRecDepth 20000 in
theorem ok_Bars_size : mOK mprog q_Bars_size := mOK_of 0 (Tb_at 657 rfl rfl) (Tb_at 54 rfl rfl) (by decide +kernel) (by decide +kernel) (by decide) rfl (by decide +kernel)
set_option maxRecDepth 20000 in
theorem ok_Bars_open : mOK mprog q_Bars_open := mOK_of 0 (Tb_at 661 rfl rfl) (Tb_at 54 rfl rfl) (by decide +kernel) (by decide +kernel) (by decide) rfl (by decide +kernel)
set_option maxRecDepth 20000 in
theorem ok_Bars_add : mOK mprog q_Bars_add := mOK_of 0 (Tb_at 420 rfl rfl) (Tb_at 54 rfl rfl) (by decide +kernel) (by decide +kernel) (by decide) rfl (by decide +kernel)
set_option maxRecDepth 20000 in
theorem ok_Bars_beginOf : mOK mprog q_Bars_beginOf := mOK_of 0 (Tb_at 428 rfl rfl) (Tb_at 54 rfl rfl) (by decide +kernel) (by decide +kernel) (by decide) rfl (by decide +kernel)
set_option maxRecDepth 20000 in
theorem ok_Bars_endOf : mOK mprog q_Bars_endOf := mOK_of 0 (Tb_at 435 rfl rfl) (Tb_at 54 rfl rfl) (by decide +kernel) (by decide +kernel) (by decide) rfl (by decide +kernel)
set_option maxRecDepth 20000 in
theorem ok_Bars_lengthOf : mOK mprog q_Bars_lengthOf := mOK_of 0 (Tb_at 667 rfl rfl) (Tb_at 54 rfl rfl) (by decide +kernel) (by decide +kernel) (by decide) rfl (by decide +kernel)
set_option maxRecDepth 20000 in
theorem ok_Bars_longest : mOK mprog q_Bars_longest := mOK_of 0 (Tb_at 696 rfl rfl) (Tb_at 54 rfl rfl) (by decide +kernel) (by decide +kernel) (by decide) rfl (by decide +kernel)
set_option maxRecDepth 20000 in
theorem ok_Bars_atLeast : mOK mprog q_Bars_atLeast := mOK_of 0 (Tb_at 687 rfl rfl) (Tb_at 54 rfl rfl) (by decide +kernel) (by decide +kernel) (by decide) rfl (by decide +kernel)
set_option maxRecDepth 20000 in
theorem ok_Bars_spanning : mOK mprog q_Bars_spanning := mOK_of 0 (Tb_at 679 rfl rfl) (Tb_at 54 rfl rfl) (by decide +kernel) (by decide +kernel) (by decide) rfl (by decide +kernel)
set_option maxRecDepth 20000 in
theorem ok_Bars_withoutPartnerIn : mOK mprog q_Bars_withoutPartnerIn := mOK_of 0 (Tb_at 555 rfl rfl) (Tb_at 54 rfl rfl) (by decide +kernel) (by decide +kernel) (by decide) rfl (by decide +kernel)
set_option maxRecDepth 20000 in
theorem ok_Bars_lastOf : mOK mprog q_Bars_lastOf := mOK_of 0 (Tb_at 671 rfl rfl) (Tb_at 54 rfl rfl) (by decide +kernel) (by decide +kernel) (by decide) rfl (by decide +kernel)
set_option maxRecDepth 20000 in
theorem ok_Bars_compare : mOK mprog q_Bars_compare := mOK_of 0 (Tb_at 424 rfl rfl) (Tb_at 54 rfl rfl) (by decide +kernel) (by decide +kernel) (by decide) rfl (by decide +kernel)
set_option maxRecDepth 20000 in
theorem ok_Kin_empty : mOK mprog q_Kin_empty := mOK_of 1 (Tb_at 366 rfl rfl) (Tb_at 53 rfl rfl) (by decide +kernel) (by decide +kernel) (by decide) rfl (by decide +kernel)
set_option maxRecDepth 20000 in
theorem ok_Kin_rootOf : mOK mprog q_Kin_rootOf := mOK_of 1 (Tb_at 416 rfl rfl) (Tb_at 53 rfl rfl) (by decide +kernel) (by decide +kernel) (by decide) rfl (by decide +kernel)
set_option maxRecDepth 20000 in
theorem ok_Kin_sinceOf : mOK mprog q_Kin_sinceOf := mOK_of 1 (Tb_at 411 rfl rfl) (Tb_at 53 rfl rfl) (by decide +kernel) (by decide +kernel) (by decide) rfl (by decide +kernel)
set_option maxRecDepth 20000 in
theorem ok_Kin_come : mOK mprog q_Kin_come := mOK_of 1 (Tb_at 397 rfl rfl) (Tb_at 53 rfl rfl) (by decide +kernel) (by decide +kernel) (by decide) rfl (by decide +kernel)
set_option maxRecDepth 20000 in
theorem ok_Kin_go : mOK mprog q_Kin_go := mOK_of 1 (Tb_at 439 rfl rfl) (Tb_at 53 rfl rfl) (by decide +kernel) (by decide +kernel) (by decide) rfl (by decide +kernel)
set_option maxRecDepth 20000 in
theorem ok_Kin_part : mOK mprog q_Kin_part := mOK_of 1 (Tb_at 464 rfl rfl) (Tb_at 53 rfl rfl) (by decide +kernel) (by decide +kernel) (by decide) rfl (by decide +kernel)
set_option maxRecDepth 20000 in
theorem ok_Kin_beginOfGoing : mOK mprog q_Kin_beginOfGoing := mOK_of 1 (Tb_at 406 rfl rfl) (Tb_at 53 rfl rfl) (by decide +kernel) (by decide +kernel) (by decide) rfl (by decide +kernel)
set_option maxRecDepth 20000 in
theorem ok_Kin_beginOfJoining : mOK mprog q_Kin_beginOfJoining := mOK_of 1 (Tb_at 447 rfl rfl) (Tb_at 53 rfl rfl) (by decide +kernel) (by decide +kernel) (by decide) rfl (by decide +kernel)
set_option maxRecDepth 20000 in
theorem ok_Kin_join : mOK mprog q_Kin_join := mOK_of 1 (Tb_at 451 rfl rfl) (Tb_at 53 rfl rfl) (by decide +kernel) (by decide +kernel) (by decide) rfl (by decide +kernel)
set_option maxRecDepth 20000 in
theorem ok_Kin_lowerRoots : mOK mprog q_Kin_lowerRoots := mOK_of 1 (Tb_at 456 rfl rfl) (Tb_at 53 rfl rfl) (by decide +kernel) (by decide +kernel) (by decide) rfl (by decide +kernel)
set_option maxRecDepth 20000 in
theorem ok_Kin_setSinceOfAll : mOK mprog q_Kin_setSinceOfAll := mOK_of 1 (Tb_at 460 rfl rfl) (Tb_at 53 rfl rfl) (by decide +kernel) (by decide +kernel) (by decide) rfl (by decide +kernel)
set_option maxRecDepth 20000 in
theorem ok_Kin_setSince : mOK mprog q_Kin_setSince := mOK_of 1 (Tb_at 443 rfl rfl) (Tb_at 53 rfl rfl) (by decide +kernel) (by decide +kernel) (by decide) rfl (by decide +kernel)
set_option maxRecDepth 20000 in
theorem ok_Net_empty : mOK mprog q_Net_empty := mOK_of 2 (Tb_at 249 rfl rfl) (Tb_at 52 rfl rfl) (by decide +kernel) (by decide +kernel) (by decide) rfl (by decide +kernel)
set_option maxRecDepth 20000 in
theorem ok_Net_points : mOK mprog q_Net_points := mOK_of 2 (Tb_at 402 rfl rfl) (Tb_at 52 rfl rfl) (by decide +kernel) (by decide +kernel) (by decide) rfl (by decide +kernel)
set_option maxRecDepth 20000 in
theorem ok_Net_edges : mOK mprog q_Net_edges := mOK_of 2 (Tb_at 574 rfl rfl) (Tb_at 52 rfl rfl) (by decide +kernel) (by decide +kernel) (by decide) rfl (by decide +kernel)
set_option maxRecDepth 20000 in
theorem ok_Net_has : mOK mprog q_Net_has := mOK_of 2 (Tb_at 313 rfl rfl) (Tb_at 52 rfl rfl) (by decide +kernel) (by decide +kernel) (by decide) rfl (by decide +kernel)
set_option maxRecDepth 20000 in
theorem ok_Net_joined : mOK mprog q_Net_joined := mOK_of 2 (Tb_at 324 rfl rfl) (Tb_at 52 rfl rfl) (by decide +kernel) (by decide +kernel) (by decide) rfl (by decide +kernel)
set_option maxRecDepth 20000 in
theorem ok_Net_canDo : mOK mprog q_Net_canDo := mOK_of 2 (Tb_at 299 rfl rfl) (Tb_at 52 rfl rfl) (by decide +kernel) (by decide +kernel) (by decide) rfl (by decide +kernel)
set_option maxRecDepth 20000 in
theorem ok_Net_change : mOK mprog q_Net_change := mOK_of 2 (Tb_at 328 rfl rfl) (Tb_at 52 rfl rfl) (by decide +kernel) (by decide +kernel) (by decide) rfl (by decide +kernel)
set_option maxRecDepth 20000 in
theorem ok_Net_pieceOf : mOK mprog q_Net_pieceOf := mOK_of 2 (Tb_at 383 rfl rfl) (Tb_at 52 rfl rfl) (by decide +kernel) (by decide +kernel) (by decide) rfl (by decide +kernel)
set_option maxRecDepth 20000 in
theorem ok_Net_pieces : mOK mprog q_Net_pieces := mOK_of 2 (Tb_at 625 rfl rfl) (Tb_at 52 rfl rfl) (by decide +kernel) (by decide +kernel) (by decide) rfl (by decide +kernel)
set_option maxRecDepth 20000 in
theorem ok_Net_loops : mOK mprog q_Net_loops := mOK_of 2 (Tb_at 630 rfl rfl) (Tb_at 52 rfl rfl) (by decide +kernel) (by decide +kernel) (by decide) rfl (by decide +kernel)
set_option maxRecDepth 20000 in
theorem ok_Net_nearOf : mOK mprog q_Net_nearOf := mOK_of 2 (Tb_at 320 rfl rfl) (Tb_at 52 rfl rfl) (by decide +kernel) (by decide +kernel) (by decide) rfl (by decide +kernel)
set_option maxRecDepth 20000 in
theorem ok_Row_size : mOK mprog q_Row_size := mOK_of 3 (Tb_at 295 rfl rfl) (Tb_at 48 rfl rfl) (by decide +kernel) (by decide +kernel) (by decide) rfl (by decide +kernel)
set_option maxRecDepth 20000 in
theorem ok_Row_empty : mOK mprog q_Row_empty := mOK_of 3 (Tb_at 256 rfl rfl) (Tb_at 48 rfl rfl) (by decide +kernel) (by decide +kernel) (by decide) rfl (by decide +kernel)
set_option maxRecDepth 20000 in
theorem ok_Row_add : mOK mprog q_Row_add := mOK_of 3 (Tb_at 333 rfl rfl) (Tb_at 48 rfl rfl) (by decide +kernel) (by decide +kernel) (by decide) rfl (by decide +kernel)
set_option maxRecDepth 20000 in
theorem ok_Row_removeLast : mOK mprog q_Row_removeLast := mOK_of 3 (Tb_at 539 rfl rfl) (Tb_at 48 rfl rfl) (by decide +kernel) (by decide +kernel) (by decide) rfl (by decide +kernel)
set_option maxRecDepth 20000 in
theorem ok_Row_actAt : mOK mprog q_Row_actAt := mOK_of 3 (Tb_at 348 rfl rfl) (Tb_at 48 rfl rfl) (by decide +kernel) (by decide +kernel) (by decide) rfl (by decide +kernel)
set_option maxRecDepth 20000 in
theorem ok_Row_swapWithNext : mOK mprog q_Row_swapWithNext := mOK_of 3 (Tb_at 551 rfl rfl) (Tb_at 48 rfl rfl) (by decide +kernel) (by decide +kernel) (by decide) rfl (by decide +kernel)
set_option maxRecDepth 20000 in
theorem ok_Row_copy : mOK mprog q_Row_copy := mOK_of 3 (Tb_at 343 rfl rfl) (Tb_at 48 rfl rfl) (by decide +kernel) (by decide +kernel) (by decide) rfl (by decide +kernel)
set_option maxRecDepth 20000 in
theorem ok_Shf_size : mOK mprog q_Shf_size := mOK_of 4 (Tb_at 603 rfl rfl) (Tb_at 49 rfl rfl) (by decide +kernel) (by decide +kernel) (by decide) rfl (by decide +kernel)
set_option maxRecDepth 20000 in
theorem ok_Shf_empty : mOK mprog q_Shf_empty := mOK_of 4 (Tb_at 353 rfl rfl) (Tb_at 49 rfl rfl) (by decide +kernel) (by decide +kernel) (by decide) rfl (by decide +kernel)
set_option maxRecDepth 20000 in
theorem ok_Shf_put : mOK mprog q_Shf_put := mOK_of 4 (Tb_at 522 rfl rfl) (Tb_at 49 rfl rfl) (by decide +kernel) (by decide +kernel) (by decide) rfl (by decide +kernel)
set_option maxRecDepth 20000 in
theorem ok_Shf_last : mOK mprog q_Shf_last := mOK_of 4 (Tb_at 530 rfl rfl) (Tb_at 49 rfl rfl) (by decide +kernel) (by decide +kernel) (by decide) rfl (by decide +kernel)
set_option maxRecDepth 20000 in
theorem ok_Shf_removeLast : mOK mprog q_Shf_removeLast := mOK_of 4 (Tb_at 599 rfl rfl) (Tb_at 49 rfl rfl) (by decide +kernel) (by decide +kernel) (by decide) rfl (by decide +kernel)
set_option maxRecDepth 20000 in
theorem ok_Shf_loseOldest : mOK mprog q_Shf_loseOldest := mOK_of 4 (Tb_at 526 rfl rfl) (Tb_at 49 rfl rfl) (by decide +kernel) (by decide +kernel) (by decide) rfl (by decide +kernel)
set_option maxRecDepth 20000 in
theorem ok_Sto_play : mOK mprog q_Sto_play := mOK_of 5 (Tb_at 361 rfl rfl) (Tb_at 51 rfl rfl) (by decide +kernel) (by decide +kernel) (by decide) rfl (by decide +kernel)
set_option maxRecDepth 20000 in
theorem ok_Sto_step : mOK mprog q_Sto_step := mOK_of 5 (Tb_at 377 rfl rfl) (Tb_at 51 rfl rfl) (by decide +kernel) (by decide +kernel) (by decide) rfl (by decide +kernel)
set_option maxRecDepth 20000 in
theorem ok_Sto_addOpenBars : mOK mprog q_Sto_addOpenBars := mOK_of 5 (Tb_at 468 rfl rfl) (Tb_at 51 rfl rfl) (by decide +kernel) (by decide +kernel) (by decide) rfl (by decide +kernel)
set_option maxRecDepth 20000 in
theorem ok_Txt_length : mOK mprog q_Txt_length := mOK_of 6 (Tb_at 260 rfl rfl) (Tb_at 47 rfl rfl) (by decide +kernel) (by decide +kernel) (by decide) rfl (by decide +kernel)
set_option maxRecDepth 20000 in
theorem ok_Txt_empty : mOK mprog q_Txt_empty := mOK_of 6 (Tb_at 472 rfl rfl) (Tb_at 47 rfl rfl) (by decide +kernel) (by decide +kernel) (by decide) rfl (by decide +kernel)
set_option maxRecDepth 20000 in
theorem ok_Txt_add : mOK mprog q_Txt_add := mOK_of 6 (Tb_at 241 rfl rfl) (Tb_at 47 rfl rfl) (by decide +kernel) (by decide +kernel) (by decide) rfl (by decide +kernel)
set_option maxRecDepth 20000 in
theorem ok_Txt_actAt : mOK mprog q_Txt_actAt := mOK_of 6 (Tb_at 264 rfl rfl) (Tb_at 47 rfl rfl) (by decide +kernel) (by decide +kernel) (by decide) rfl (by decide +kernel)
set_option maxRecDepth 20000 in
theorem ok_Txt_letterAt : mOK mprog q_Txt_letterAt := mOK_of 6 (Tb_at 268 rfl rfl) (Tb_at 47 rfl rfl) (by decide +kernel) (by decide +kernel) (by decide) rfl (by decide +kernel)
set_option maxRecDepth 20000 in
theorem ok_Z_write : mOK mprog q_Z_write := mOK_of 7 (Tb_at 499 rfl rfl) (Tb_at 46 rfl rfl) (by decide +kernel) (by decide +kernel) (by decide) rfl (by decide +kernel)
set_option maxRecDepth 20000 in
theorem ok_Z_wipe : mOK mprog q_Z_wipe := mOK_of 7 (Tb_at 503 rfl rfl) (Tb_at 46 rfl rfl) (by decide +kernel) (by decide +kernel) (by decide) rfl (by decide +kernel)
set_option maxRecDepth 20000 in
theorem ok_Z_fault : mOK mprog q_Z_fault := mOK_of 7 (Tb_at 507 rfl rfl) (Tb_at 46 rfl rfl) (by decide +kernel) (by decide +kernel) (by decide) rfl (by decide +kernel)
set_option maxRecDepth 20000 in
theorem ok_Z_lay : mOK mprog q_Z_lay := mOK_of 7 (Tb_at 511 rfl rfl) (Tb_at 46 rfl rfl) (by decide +kernel) (by decide +kernel) (by decide) rfl (by decide +kernel)
set_option maxRecDepth 20000 in
theorem ok_Z_act : mOK mprog q_Z_act := mOK_of 7 (Tb_at 515 rfl rfl) (Tb_at 46 rfl rfl) (by decide +kernel) (by decide +kernel) (by decide) rfl (by decide +kernel)
set_option maxRecDepth 20000 in
theorem ok_Z_drop : mOK mprog q_Z_drop := mOK_of 7 (Tb_at 535 rfl rfl) (Tb_at 46 rfl rfl) (by decide +kernel) (by decide +kernel) (by decide) rfl (by decide +kernel)
set_option maxRecDepth 20000 in
theorem ok_Z_exchange : mOK mprog q_Z_exchange := mOK_of 7 (Tb_at 543 rfl rfl) (Tb_at 46 rfl rfl) (by decide +kernel) (by decide +kernel) (by decide) rfl (by decide +kernel)
set_option maxRecDepth 20000 in
theorem ok_Z_backwards : mOK mprog q_Z_backwards := mOK_of 7 (Tb_at 559 rfl rfl) (Tb_at 46 rfl rfl) (by decide +kernel) (by decide +kernel) (by decide) rfl (by decide +kernel)
set_option maxRecDepth 20000 in
theorem ok_Z_clear : mOK mprog q_Z_clear := mOK_of 7 (Tb_at 570 rfl rfl) (Tb_at 46 rfl rfl) (by decide +kernel) (by decide +kernel) (by decide) rfl (by decide +kernel)
set_option maxRecDepth 20000 in
theorem ok_Z_undo : mOK mprog q_Z_undo := mOK_of 7 (Tb_at 594 rfl rfl) (Tb_at 46 rfl rfl) (by decide +kernel) (by decide +kernel) (by decide) rfl (by decide +kernel)
set_option maxRecDepth 20000 in
theorem ok_Z_spelt : mOK mprog q_Z_spelt := mOK_of 7 (Tb_at 607 rfl rfl) (Tb_at 46 rfl rfl) (by decide +kernel) (by decide +kernel) (by decide) rfl (by decide +kernel)
set_option maxRecDepth 20000 in
theorem ok_Z_told : mOK mprog q_Z_told := mOK_of 7 (Tb_at 617 rfl rfl) (Tb_at 46 rfl rfl) (by decide +kernel) (by decide +kernel) (by decide) rfl (by decide +kernel)
set_option maxRecDepth 20000 in
theorem ok_Z_graph : mOK mprog q_Z_graph := mOK_of 7 (Tb_at 621 rfl rfl) (Tb_at 46 rfl rfl) (by decide +kernel) (by decide +kernel) (by decide) rfl (by decide +kernel)
set_option maxRecDepth 20000 in
theorem ok_Z_piece : mOK mprog q_Z_piece := mOK_of 7 (Tb_at 636 rfl rfl) (Tb_at 46 rfl rfl) (by decide +kernel) (by decide +kernel) (by decide) rfl (by decide +kernel)
set_option maxRecDepth 20000 in
theorem ok_Z_root : mOK mprog q_Z_root := mOK_of 7 (Tb_at 642 rfl rfl) (Tb_at 46 rfl rfl) (by decide +kernel) (by decide +kernel) (by decide) rfl (by decide +kernel)
set_option maxRecDepth 20000 in
theorem ok_Z_kin : mOK mprog q_Z_kin := mOK_of 7 (Tb_at 647 rfl rfl) (Tb_at 46 rfl rfl) (by decide +kernel) (by decide +kernel) (by decide) rfl (by decide +kernel)
set_option maxRecDepth 20000 in
theorem ok_Z_bar : mOK mprog q_Z_bar := mOK_of 7 (Tb_at 653 rfl rfl) (Tb_at 46 rfl rfl) (by decide +kernel) (by decide +kernel) (by decide) rfl (by decide +kernel)
set_option maxRecDepth 20000 in
theorem ok_Z_lasting : mOK mprog q_Z_lasting := mOK_of 7 (Tb_at 675 rfl rfl) (Tb_at 46 rfl rfl) (by decide +kernel) (by decide +kernel) (by decide) rfl (by decide +kernel)
set_option maxRecDepth 20000 in
theorem ok_Z_longer : mOK mprog q_Z_longer := mOK_of 7 (Tb_at 683 rfl rfl) (Tb_at 46 rfl rfl) (by decide +kernel) (by decide +kernel) (by decide) rfl (by decide +kernel)
set_option maxRecDepth 20000 in
theorem ok_Z_steadiest : mOK mprog q_Z_steadiest := mOK_of 7 (Tb_at 692 rfl rfl) (Tb_at 46 rfl rfl) (by decide +kernel) (by decide +kernel) (by decide) rfl (by decide +kernel)
set_option maxRecDepth 20000 in
theorem ok_Z_keep : mOK mprog q_Z_keep := mOK_of 7 (Tb_at 701 rfl rfl) (Tb_at 46 rfl rfl) (by decide +kernel) (by decide +kernel) (by decide) rfl (by decide +kernel)
set_option maxRecDepth 20000 in
theorem ok_Z_other : mOK mprog q_Z_other := mOK_of 7 (Tb_at 705 rfl rfl) (Tb_at 46 rfl rfl) (by decide +kernel) (by decide +kernel) (by decide) rfl (by decide +kernel)
set_option maxRecDepth 20000 in
theorem ok_Z_back : mOK mprog q_Z_back := mOK_of 7 (Tb_at 709 rfl rfl) (Tb_at 46 rfl rfl) (by decide +kernel) (by decide +kernel) (by decide) rfl (by decide +kernel)
set_option maxRecDepth 20000 in
theorem ok_Z_count : mOK mprog q_Z_count := mOK_of 7 (Tb_at 713 rfl rfl) (Tb_at 46 rfl rfl) (by decide +kernel) (by decide +kernel) (by decide) rfl (by decide +kernel)
set_option maxRecDepth 20000 in
theorem ok_Z_readText : mOK mprog q_Z_readText := mOK_of 7 (Tb_at 245 rfl rfl) (Tb_at 46 rfl rfl) (by decide +kernel) (by decide +kernel) (by decide) rfl (by decide +kernel)
set_option maxRecDepth 20000 in
theorem ok_Z_layTrial : mOK mprog q_Z_layTrial := mOK_of 7 (Tb_at 339 rfl rfl) (Tb_at 46 rfl rfl) (by decide +kernel) (by decide +kernel) (by decide) rfl (by decide +kernel)
set_option maxRecDepth 20000 in
theorem ok_Z_tellAnew : mOK mprog q_Z_tellAnew := mOK_of 7 (Tb_at 357 rfl rfl) (Tb_at 46 rfl rfl) (by decide +kernel) (by decide +kernel) (by decide) rfl (by decide +kernel)
set_option maxRecDepth 20000 in
theorem ok_Z_tryExchange : mOK mprog q_Z_tryExchange := mOK_of 7 (Tb_at 547 rfl rfl) (Tb_at 46 rfl rfl) (by decide +kernel) (by decide +kernel) (by decide) rfl (by decide +kernel)
set_option maxRecDepth 20000 in
theorem ok_Z_addEdgesGoing : mOK mprog q_Z_addEdgesGoing := mOK_of 7 (Tb_at 584 rfl rfl) (Tb_at 46 rfl rfl) (by decide +kernel) (by decide +kernel) (by decide) rfl (by decide +kernel)
set_option maxRecDepth 20000 in
theorem ok_Z_addPointsGoing : mOK mprog q_Z_addPointsGoing := mOK_of 7 (Tb_at 589 rfl rfl) (Tb_at 46 rfl rfl) (by decide +kernel) (by decide +kernel) (by decide) rfl (by decide +kernel)
set_option maxRecDepth 20000 in
theorem ok_Z_actOf : mOK mprog q_Z_actOf := mOK_of 7 (Tb_at 287 rfl rfl) (Tb_at 46 rfl rfl) (by decide +kernel) (by decide +kernel) (by decide) rfl (by decide +kernel)
set_option maxRecDepth 20000 in
theorem ok_Z_kindOf : mOK mprog q_Z_kindOf := mOK_of 7 (Tb_at 309 rfl rfl) (Tb_at 46 rfl rfl) (by decide +kernel) (by decide +kernel) (by decide) rfl (by decide +kernel)
set_option maxRecDepth 20000 in
theorem ok_Z_lowOf : mOK mprog q_Z_lowOf := mOK_of 7 (Tb_at 302 rfl rfl) (Tb_at 46 rfl rfl) (by decide +kernel) (by decide +kernel) (by decide) rfl (by decide +kernel)
set_option maxRecDepth 20000 in
theorem ok_Z_highOf : mOK mprog q_Z_highOf := mOK_of 7 (Tb_at 305 rfl rfl) (Tb_at 46 rfl rfl) (by decide +kernel) (by decide +kernel) (by decide) rfl (by decide +kernel)
set_option maxRecDepth 20000 in
theorem ok_Z_otherWay : mOK mprog q_Z_otherWay := mOK_of 7 (Tb_at 564 rfl rfl) (Tb_at 46 rfl rfl) (by decide +kernel) (by decide +kernel) (by decide) rfl (by decide +kernel)
set_option maxRecDepth 20000 in
theorem ok_Z_isKind : mOK mprog q_Z_isKind := mOK_of 7 (Tb_at 274 rfl rfl) (Tb_at 46 rfl rfl) (by decide +kernel) (by decide +kernel) (by decide) rfl (by decide +kernel)
set_option maxRecDepth 20000 in
theorem ok_Z_isOfEdge : mOK mprog q_Z_isOfEdge := mOK_of 7 (Tb_at 277 rfl rfl) (Tb_at 46 rfl rfl) (by decide +kernel) (by decide +kernel) (by decide) rfl (by decide +kernel)
set_option maxRecDepth 20000 in
theorem ok_Z_itemLength : mOK mprog q_Z_itemLength := mOK_of 7 (Tb_at 280 rfl rfl) (Tb_at 46 rfl rfl) (by decide +kernel) (by decide +kernel) (by decide) rfl (by decide +kernel)
set_option maxRecDepth 20000 in
theorem ok_Z_kindOfLetter : mOK mprog q_Z_kindOfLetter := mOK_of 7 (Tb_at 271 rfl rfl) (Tb_at 46 rfl rfl) (by decide +kernel) (by decide +kernel) (by decide) rfl (by decide +kernel)
set_option maxRecDepth 20000 in
theorem ok_Z_letterOfKind : mOK mprog q_Z_letterOfKind := mOK_of 7 (Tb_at 613 rfl rfl) (Tb_at 46 rfl rfl) (by decide +kernel) (by decide +kernel) (by decide) rfl (by decide +kernel)
set_option maxRecDepth 20000 in
theorem ok_Z_letterOf : mOK mprog q_Z_letterOf := mOK_of 7 (Tb_at 610 rfl rfl) (Tb_at 46 rfl rfl) (by decide +kernel) (by decide +kernel) (by decide) rfl (by decide +kernel)
set_option maxRecDepth 20000 in
theorem ok_Z_isPoint : mOK mprog q_Z_isPoint := mOK_of 7 (Tb_at 284 rfl rfl) (Tb_at 46 rfl rfl) (by decide +kernel) (by decide +kernel) (by decide) rfl (by decide +kernel)
set_option maxRecDepth 20000 in
theorem ok_Z_isIn : mOK mprog q_Z_isIn := mOK_of 7 (Tb_at 316 rfl rfl) (Tb_at 46 rfl rfl) (by decide +kernel) (by decide +kernel) (by decide) rfl (by decide +kernel)
set_option maxRecDepth 20000 in
theorem ok_Z_lowestOf : mOK mprog q_Z_lowestOf := mOK_of 7 (Tb_at 386 rfl rfl) (Tb_at 46 rfl rfl) (by decide +kernel) (by decide +kernel) (by decide) rfl (by decide +kernel)
set_option maxRecDepth 20000 in
theorem ok_M_in : mOK mprog q_M_in := mOK_of 8 (Tb_at 793 rfl rfl) (Tb_at 61 rfl rfl) (by decide +kernel) (by decide +kernel) (by decide) rfl (by decide +kernel)
set_option maxRecDepth 20000 in
theorem ok_M_codeOf : mOK mprog q_M_codeOf := mOK_of 8 (Tb_at 820 rfl rfl) (Tb_at 61 rfl rfl) (by decide +kernel) (by decide +kernel) (by decide) rfl (by decide +kernel)
set_option maxRecDepth 20000 in
theorem ok_M_kindOf : mOK mprog q_M_kindOf := mOK_of 8 (Tb_at 833 rfl rfl) (Tb_at 61 rfl rfl) (by decide +kernel) (by decide +kernel) (by decide) rfl (by decide +kernel)
set_option maxRecDepth 20000 in
theorem ok_M_oneOf : mOK mprog q_M_oneOf := mOK_of 8 (Tb_at 827 rfl rfl) (Tb_at 61 rfl rfl) (by decide +kernel) (by decide +kernel) (by decide) rfl (by decide +kernel)
set_option maxRecDepth 20000 in
theorem ok_M_otherOf : mOK mprog q_M_otherOf := mOK_of 8 (Tb_at 830 rfl rfl) (Tb_at 61 rfl rfl) (by decide +kernel) (by decide +kernel) (by decide) rfl (by decide +kernel)
set_option maxRecDepth 20000 in
theorem ok_M_has : mOK mprog q_M_has := mOK_of 8 (Tb_at 836 rfl rfl) (Tb_at 61 rfl rfl) (by decide +kernel) (by decide +kernel) (by decide) rfl (by decide +kernel)
set_option maxRecDepth 20000 in
theorem ok_M_may : mOK mprog q_M_may := mOK_of 8 (Tb_at 824 rfl rfl) (Tb_at 61 rfl rfl) (by decide +kernel) (by decide +kernel) (by decide) rfl (by decide +kernel)
set_option maxRecDepth 20000 in
theorem ok_M_reach : mOK mprog q_M_reach := mOK_of 8 (Tb_at 880 rfl rfl) (Tb_at 61 rfl rfl) (by decide +kernel) (by decide +kernel) (by decide) rfl (by decide +kernel)
set_option maxRecDepth 20000 in
theorem ok_M_freePiece : mOK mprog q_M_freePiece := mOK_of 8 (Tb_at 848 rfl rfl) (Tb_at 61 rfl rfl) (by decide +kernel) (by decide +kernel) (by decide) rfl (by decide +kernel)
set_option maxRecDepth 20000 in
theorem ok_M_kinOf : mOK mprog q_M_kinOf := mOK_of 8 (Tb_at 860 rfl rfl) (Tb_at 61 rfl rfl) (by decide +kernel) (by decide +kernel) (by decide) rfl (by decide +kernel)
set_option maxRecDepth 20000 in
theorem ok_M_makesKin : mOK mprog q_M_makesKin := mOK_of 8 (Tb_at 852 rfl rfl) (Tb_at 61 rfl rfl) (by decide +kernel) (by decide +kernel) (by decide) rfl (by decide +kernel)
set_option maxRecDepth 20000 in
theorem ok_M_ends : mOK mprog q_M_ends := mOK_of 8 (Tb_at 864 rfl rfl) (Tb_at 61 rfl rfl) (by decide +kernel) (by decide +kernel) (by decide) rfl (by decide +kernel)
set_option maxRecDepth 20000 in
theorem ok_M_goes : mOK mprog q_M_goes := mOK_of 8 (Tb_at 856 rfl rfl) (Tb_at 61 rfl rfl) (by decide +kernel) (by decide +kernel) (by decide) rfl (by decide +kernel)
set_option maxRecDepth 20000 in
theorem ok_M_comes : mOK mprog q_M_comes := mOK_of 8 (Tb_at 844 rfl rfl) (Tb_at 61 rfl rfl) (by decide +kernel) (by decide +kernel) (by decide) rfl (by decide +kernel)
set_option maxRecDepth 20000 in
theorem ok_M_parts : mOK mprog q_M_parts := mOK_of 8 (Tb_at 876 rfl rfl) (Tb_at 61 rfl rfl) (by decide +kernel) (by decide +kernel) (by decide) rfl (by decide +kernel)
set_option maxRecDepth 20000 in
theorem ok_M_bindsNear : mOK mprog q_M_bindsNear := mOK_of 8 (Tb_at 872 rfl rfl) (Tb_at 61 rfl rfl) (by decide +kernel) (by decide +kernel) (by decide) rfl (by decide +kernel)
set_option maxRecDepth 20000 in
theorem ok_M_joins : mOK mprog q_M_joins := mOK_of 8 (Tb_at 868 rfl rfl) (Tb_at 61 rfl rfl) (by decide +kernel) (by decide +kernel) (by decide) rfl (by decide +kernel)
set_option maxRecDepth 20000 in
theorem ok_M_does : mOK mprog q_M_does := mOK_of 8 (Tb_at 840 rfl rfl) (Tb_at 61 rfl rfl) (by decide +kernel) (by decide +kernel) (by decide) rfl (by decide +kernel)
set_option maxRecDepth 20000 in
theorem ok_M_begins : mOK mprog q_M_begins := mOK_of 8 (Tb_at 809 rfl rfl) (Tb_at 61 rfl rfl) (by decide +kernel) (by decide +kernel) (by decide) rfl (by decide +kernel)
set_option maxRecDepth 20000 in
theorem ok_M_runs : mOK mprog q_M_runs := mOK_of 8 (Tb_at 892 rfl rfl) (Tb_at 61 rfl rfl) (by decide +kernel) (by decide +kernel) (by decide) rfl (by decide +kernel)
set_option maxRecDepth 20000 in
theorem ok_M_lowestOf : mOK mprog q_M_lowestOf := mOK_of 8 (Tb_at 912 rfl rfl) (Tb_at 61 rfl rfl) (by decide +kernel) (by decide +kernel) (by decide) rfl (by decide +kernel)
set_option maxRecDepth 20000 in
theorem ok_M_runsAll : mOK mprog q_M_runsAll := mOK_of 8 (Tb_at 908 rfl rfl) (Tb_at 61 rfl rfl) (by decide +kernel) (by decide +kernel) (by decide) rfl (by decide +kernel)
set_option maxRecDepth 20000 in
theorem ok_M_lengthOf : mOK mprog q_M_lengthOf := mOK_of 8 (Tb_at 983 rfl rfl) (Tb_at 61 rfl rfl) (by decide +kernel) (by decide +kernel) (by decide) rfl (by decide +kernel)
set_option maxRecDepth 20000 in
theorem ok_M_bits : mOK mprog q_M_bits := mOK_of 8 (Tb_at 939 rfl rfl) (Tb_at 61 rfl rfl) (by decide +kernel) (by decide +kernel) (by decide) rfl (by decide +kernel)
set_option maxRecDepth 20000 in
theorem ok_M_edges : mOK mprog q_M_edges := mOK_of 8 (Tb_at 936 rfl rfl) (Tb_at 61 rfl rfl) (by decide +kernel) (by decide +kernel) (by decide) rfl (by decide +kernel)
set_option maxRecDepth 20000 in
theorem ok_M_write : mOK mprog q_M_write := mOK_of 8 (Tb_at 790 rfl rfl) (Tb_at 61 rfl rfl) (by decide +kernel) (by decide +kernel) (by decide) rfl (by decide +kernel)
set_option maxRecDepth 20000 in
theorem ok_M_wipe : mOK mprog q_M_wipe := mOK_of 8 (Tb_at 797 rfl rfl) (Tb_at 61 rfl rfl) (by decide +kernel) (by decide +kernel) (by decide) rfl (by decide +kernel)
set_option maxRecDepth 20000 in
theorem ok_M_figureAt : mOK mprog q_M_figureAt := mOK_of 8 (Tb_at 817 rfl rfl) (Tb_at 61 rfl rfl) (by decide +kernel) (by decide +kernel) (by decide) rfl (by decide +kernel)
set_option maxRecDepth 20000 in
theorem ok_M_item : mOK mprog q_M_item := mOK_of 8 (Tb_at 813 rfl rfl) (Tb_at 61 rfl rfl) (by decide +kernel) (by decide +kernel) (by decide) rfl (by decide +kernel)
set_option maxRecDepth 20000 in
theorem ok_M_reads : mOK mprog q_M_reads := mOK_of 8 (Tb_at 805 rfl rfl) (Tb_at 61 rfl rfl) (by decide +kernel) (by decide +kernel) (by decide) rfl (by decide +kernel)
set_option maxRecDepth 20000 in
theorem ok_M_fault : mOK mprog q_M_fault := mOK_of 8 (Tb_at 801 rfl rfl) (Tb_at 61 rfl rfl) (by decide +kernel) (by decide +kernel) (by decide) rfl (by decide +kernel)
set_option maxRecDepth 20000 in
theorem ok_M_lay : mOK mprog q_M_lay := mOK_of 8 (Tb_at 884 rfl rfl) (Tb_at 61 rfl rfl) (by decide +kernel) (by decide +kernel) (by decide) rfl (by decide +kernel)
set_option maxRecDepth 20000 in
theorem ok_M_notes : mOK mprog q_M_notes := mOK_of 8 (Tb_at 896 rfl rfl) (Tb_at 61 rfl rfl) (by decide +kernel) (by decide +kernel) (by decide) rfl (by decide +kernel)
set_option maxRecDepth 20000 in
theorem ok_M_act : mOK mprog q_M_act := mOK_of 8 (Tb_at 888 rfl rfl) (Tb_at 61 rfl rfl) (by decide +kernel) (by decide +kernel) (by decide) rfl (by decide +kernel)
set_option maxRecDepth 20000 in
theorem ok_M_drop : mOK mprog q_M_drop := mOK_of 8 (Tb_at 900 rfl rfl) (Tb_at 61 rfl rfl) (by decide +kernel) (by decide +kernel) (by decide) rfl (by decide +kernel)
set_option maxRecDepth 20000 in
theorem ok_M_sets : mOK mprog q_M_sets := mOK_of 8 (Tb_at 916 rfl rfl) (Tb_at 61 rfl rfl) (by decide +kernel) (by decide +kernel) (by decide) rfl (by decide +kernel)
set_option maxRecDepth 20000 in
theorem ok_M_others : mOK mprog q_M_others := mOK_of 8 (Tb_at 924 rfl rfl) (Tb_at 61 rfl rfl) (by decide +kernel) (by decide +kernel) (by decide) rfl (by decide +kernel)
set_option maxRecDepth 20000 in
theorem ok_M_swaps : mOK mprog q_M_swaps := mOK_of 8 (Tb_at 920 rfl rfl) (Tb_at 61 rfl rfl) (by decide +kernel) (by decide +kernel) (by decide) rfl (by decide +kernel)
set_option maxRecDepth 20000 in
theorem ok_M_exchange : mOK mprog q_M_exchange := mOK_of 8 (Tb_at 904 rfl rfl) (Tb_at 61 rfl rfl) (by decide +kernel) (by decide +kernel) (by decide) rfl (by decide +kernel)
set_option maxRecDepth 20000 in
theorem ok_M_backwards : mOK mprog q_M_backwards := mOK_of 8 (Tb_at 928 rfl rfl) (Tb_at 61 rfl rfl) (by decide +kernel) (by decide +kernel) (by decide) rfl (by decide +kernel)
set_option maxRecDepth 20000 in
theorem ok_M_clear : mOK mprog q_M_clear := mOK_of 8 (Tb_at 932 rfl rfl) (Tb_at 61 rfl rfl) (by decide +kernel) (by decide +kernel) (by decide) rfl (by decide +kernel)
set_option maxRecDepth 20000 in
theorem ok_M_undo : mOK mprog q_M_undo := mOK_of 8 (Tb_at 943 rfl rfl) (Tb_at 61 rfl rfl) (by decide +kernel) (by decide +kernel) (by decide) rfl (by decide +kernel)
set_option maxRecDepth 20000 in
theorem ok_M_letterOf : mOK mprog q_M_letterOf := mOK_of 8 (Tb_at 951 rfl rfl) (Tb_at 61 rfl rfl) (by decide +kernel) (by decide +kernel) (by decide) rfl (by decide +kernel)
set_option maxRecDepth 20000 in
theorem ok_M_spelt : mOK mprog q_M_spelt := mOK_of 8 (Tb_at 947 rfl rfl) (Tb_at 61 rfl rfl) (by decide +kernel) (by decide +kernel) (by decide) rfl (by decide +kernel)
set_option maxRecDepth 20000 in
theorem ok_M_told : mOK mprog q_M_told := mOK_of 8 (Tb_at 955 rfl rfl) (Tb_at 61 rfl rfl) (by decide +kernel) (by decide +kernel) (by decide) rfl (by decide +kernel)
set_option maxRecDepth 20000 in
theorem ok_M_graph : mOK mprog q_M_graph := mOK_of 8 (Tb_at 959 rfl rfl) (Tb_at 61 rfl rfl) (by decide +kernel) (by decide +kernel) (by decide) rfl (by decide +kernel)
set_option maxRecDepth 20000 in
theorem ok_M_piece : mOK mprog q_M_piece := mOK_of 8 (Tb_at 963 rfl rfl) (Tb_at 61 rfl rfl) (by decide +kernel) (by decide +kernel) (by decide) rfl (by decide +kernel)
set_option maxRecDepth 20000 in
theorem ok_M_root : mOK mprog q_M_root := mOK_of 8 (Tb_at 967 rfl rfl) (Tb_at 61 rfl rfl) (by decide +kernel) (by decide +kernel) (by decide) rfl (by decide +kernel)
set_option maxRecDepth 20000 in
theorem ok_M_kin : mOK mprog q_M_kin := mOK_of 8 (Tb_at 971 rfl rfl) (Tb_at 61 rfl rfl) (by decide +kernel) (by decide +kernel) (by decide) rfl (by decide +kernel)
set_option maxRecDepth 20000 in
theorem ok_M_open : mOK mprog q_M_open := mOK_of 8 (Tb_at 979 rfl rfl) (Tb_at 61 rfl rfl) (by decide +kernel) (by decide +kernel) (by decide) rfl (by decide +kernel)
set_option maxRecDepth 20000 in
theorem ok_M_bar : mOK mprog q_M_bar := mOK_of 8 (Tb_at 975 rfl rfl) (Tb_at 61 rfl rfl) (by decide +kernel) (by decide +kernel) (by decide) rfl (by decide +kernel)
set_option maxRecDepth 20000 in
theorem ok_M_lasting : mOK mprog q_M_lasting := mOK_of 8 (Tb_at 987 rfl rfl) (Tb_at 61 rfl rfl) (by decide +kernel) (by decide +kernel) (by decide) rfl (by decide +kernel)
set_option maxRecDepth 20000 in
theorem ok_M_longer : mOK mprog q_M_longer := mOK_of 8 (Tb_at 991 rfl rfl) (Tb_at 61 rfl rfl) (by decide +kernel) (by decide +kernel) (by decide) rfl (by decide +kernel)
set_option maxRecDepth 20000 in
theorem ok_M_longest : mOK mprog q_M_longest := mOK_of 8 (Tb_at 999 rfl rfl) (Tb_at 61 rfl rfl) (by decide +kernel) (by decide +kernel) (by decide) rfl (by decide +kernel)
set_option maxRecDepth 20000 in
theorem ok_M_steadiest : mOK mprog q_M_steadiest := mOK_of 8 (Tb_at 995 rfl rfl) (Tb_at 61 rfl rfl) (by decide +kernel) (by decide +kernel) (by decide) rfl (by decide +kernel)
set_option maxRecDepth 20000 in
theorem ok_M_keep : mOK mprog q_M_keep := mOK_of 8 (Tb_at 1003 rfl rfl) (Tb_at 61 rfl rfl) (by decide +kernel) (by decide +kernel) (by decide) rfl (by decide +kernel)
set_option maxRecDepth 20000 in
theorem ok_M_turnsOver : mOK mprog q_M_turnsOver := mOK_of 8 (Tb_at 1011 rfl rfl) (Tb_at 61 rfl rfl) (by decide +kernel) (by decide +kernel) (by decide) rfl (by decide +kernel)
set_option maxRecDepth 20000 in
theorem ok_M_other : mOK mprog q_M_other := mOK_of 8 (Tb_at 1007 rfl rfl) (Tb_at 61 rfl rfl) (by decide +kernel) (by decide +kernel) (by decide) rfl (by decide +kernel)
set_option maxRecDepth 20000 in
theorem ok_M_back : mOK mprog q_M_back := mOK_of 8 (Tb_at 1015 rfl rfl) (Tb_at 61 rfl rfl) (by decide +kernel) (by decide +kernel) (by decide) rfl (by decide +kernel)
set_option maxRecDepth 20000 in
theorem ok_M_count : mOK mprog q_M_count := mOK_of 8 (Tb_at 1019 rfl rfl) (Tb_at 61 rfl rfl) (by decide +kernel) (by decide +kernel) (by decide) rfl (by decide +kernel)
set_option maxRecDepth 20000 in
theorem ok_Int_compare : mOK mprog q_Int_compare := mOK_of 9 (Tb_at 431 rfl rfl) (Tb_at 60 rfl rfl) (by decide +kernel) (by decide +kernel) (by decide) rfl (by decide +kernel)
set_option maxRecDepth 20000 in
theorem ok_Int_numberOfTrailingZeros : mOK mprog q_Int_numberOfTrailingZeros := mOK_of 9 (Tb_at 389 rfl rfl) (Tb_at 60 rfl rfl) (by decide +kernel) (by decide +kernel) (by decide) rfl (by decide +kernel)
set_option maxRecDepth 20000 in
theorem ok_Int_bitCount : mOK mprog q_Int_bitCount := mOK_of 9 (Tb_at 577 rfl rfl) (Tb_at 60 rfl rfl) (by decide +kernel) (by decide +kernel) (by decide) rfl (by decide +kernel)
set_option maxRecDepth 20000 in
theorem ok_Arr_fill : mOK mprog q_Arr_fill := mOK_of 11 (Tb_at 252 rfl rfl) (Tb_at 59 rfl rfl) (by decide +kernel) (by decide +kernel) (by decide) rfl (by decide +kernel)
theorem mprog_ok : POK mprog := List.forall_mem_cons.mpr ⟨ok_Bars_empty, List.forall_mem_cons.mpr ⟨ok_Bars_size, List.forall_mem_cons.mpr ⟨ok_Bars_open, List.forall_mem_cons.mpr ⟨ok_Bars_add, List.forall_mem_cons.mpr ⟨ok_Bars_beginOf, List.forall_mem_cons.mpr ⟨ok_Bars_endOf, List.forall_mem_cons.mpr ⟨ok_Bars_lengthOf, List.forall_mem_cons.mpr ⟨ok_Bars_longest, List.forall_mem_cons.mpr ⟨ok_Bars_atLeast, List.forall_mem_cons.mpr ⟨ok_Bars_spanning, List.forall_mem_cons.mpr ⟨ok_Bars_withoutPartnerIn, List.forall_mem_cons.mpr ⟨ok_Bars_lastOf, List.forall_mem_cons.mpr ⟨ok_Bars_compare, List.forall_mem_cons.mpr ⟨ok_Kin_empty, List.forall_mem_cons.mpr ⟨ok_Kin_rootOf, List.forall_mem_cons.mpr ⟨ok_Kin_sinceOf, List.forall_mem_cons.mpr ⟨ok_Kin_come, List.forall_mem_cons.mpr ⟨ok_Kin_go, List.forall_mem_cons.mpr ⟨ok_Kin_part, List.forall_mem_cons.mpr ⟨ok_Kin_beginOfGoing, List.forall_mem_cons.mpr ⟨ok_Kin_beginOfJoining, List.forall_mem_cons.mpr ⟨ok_Kin_join, List.forall_mem_cons.mpr ⟨ok_Kin_lowerRoots, List.forall_mem_cons.mpr ⟨ok_Kin_setSinceOfAll, List.forall_mem_cons.mpr ⟨ok_Kin_setSince, List.forall_mem_cons.mpr ⟨ok_Net_empty, List.forall_mem_cons.mpr ⟨ok_Net_points, List.forall_mem_cons.mpr ⟨ok_Net_edges, List.forall_mem_cons.mpr ⟨ok_Net_has, List.forall_mem_cons.mpr ⟨ok_Net_joined, List.forall_mem_cons.mpr ⟨ok_Net_canDo, List.forall_mem_cons.mpr ⟨ok_Net_change, List.forall_mem_cons.mpr ⟨ok_Net_pieceOf, List.forall_mem_cons.mpr ⟨ok_Net_pieces, List.forall_mem_cons.mpr ⟨ok_Net_loops, List.forall_mem_cons.mpr ⟨ok_Net_nearOf, List.forall_mem_cons.mpr ⟨ok_Row_size, List.forall_mem_cons.mpr ⟨ok_Row_empty, List.forall_mem_cons.mpr ⟨ok_Row_add, List.forall_mem_cons.mpr ⟨ok_Row_removeLast, List.forall_mem_cons.mpr ⟨ok_Row_actAt, List.forall_mem_cons.mpr ⟨ok_Row_swapWithNext, List.forall_mem_cons.mpr ⟨ok_Row_copy, List.forall_mem_cons.mpr ⟨ok_Shf_size, List.forall_mem_cons.mpr ⟨ok_Shf_empty, List.forall_mem_cons.mpr ⟨ok_Shf_put, List.forall_mem_cons.mpr ⟨ok_Shf_last, List.forall_mem_cons.mpr ⟨ok_Shf_removeLast, List.forall_mem_cons.mpr ⟨ok_Shf_loseOldest, List.forall_mem_cons.mpr ⟨ok_Sto_play, List.forall_mem_cons.mpr ⟨ok_Sto_step, List.forall_mem_cons.mpr ⟨ok_Sto_addOpenBars, List.forall_mem_cons.mpr ⟨ok_Txt_length, List.forall_mem_cons.mpr ⟨ok_Txt_empty, List.forall_mem_cons.mpr ⟨ok_Txt_add, List.forall_mem_cons.mpr ⟨ok_Txt_actAt, List.forall_mem_cons.mpr ⟨ok_Txt_letterAt, List.forall_mem_cons.mpr ⟨ok_Z_write, List.forall_mem_cons.mpr ⟨ok_Z_wipe, List.forall_mem_cons.mpr ⟨ok_Z_fault, List.forall_mem_cons.mpr ⟨ok_Z_lay, List.forall_mem_cons.mpr ⟨ok_Z_act, List.forall_mem_cons.mpr ⟨ok_Z_drop, List.forall_mem_cons.mpr ⟨ok_Z_exchange, List.forall_mem_cons.mpr ⟨ok_Z_backwards, List.forall_mem_cons.mpr ⟨ok_Z_clear, List.forall_mem_cons.mpr ⟨ok_Z_undo, List.forall_mem_cons.mpr ⟨ok_Z_spelt, List.forall_mem_cons.mpr ⟨ok_Z_told, List.forall_mem_cons.mpr ⟨ok_Z_graph, List.forall_mem_cons.mpr ⟨ok_Z_piece, List.forall_mem_cons.mpr ⟨ok_Z_root, List.forall_mem_cons.mpr ⟨ok_Z_kin, List.forall_mem_cons.mpr ⟨ok_Z_bar, List.forall_mem_cons.mpr ⟨ok_Z_lasting, List.forall_mem_cons.mpr ⟨ok_Z_longer, List.forall_mem_cons.mpr ⟨ok_Z_steadiest, List.forall_mem_cons.mpr ⟨ok_Z_keep, List.forall_mem_cons.mpr ⟨ok_Z_other, List.forall_mem_cons.mpr ⟨ok_Z_back, List.forall_mem_cons.mpr ⟨ok_Z_count, List.forall_mem_cons.mpr ⟨ok_Z_readText, List.forall_mem_cons.mpr ⟨ok_Z_layTrial, List.forall_mem_cons.mpr ⟨ok_Z_tellAnew, List.forall_mem_cons.mpr ⟨ok_Z_tryExchange, List.forall_mem_cons.mpr ⟨ok_Z_addEdgesGoing, List.forall_mem_cons.mpr ⟨ok_Z_addPointsGoing, List.forall_mem_cons.mpr ⟨ok_Z_actOf, List.forall_mem_cons.mpr ⟨ok_Z_kindOf, List.forall_mem_cons.mpr ⟨ok_Z_lowOf, List.forall_mem_cons.mpr ⟨ok_Z_highOf, List.forall_mem_cons.mpr ⟨ok_Z_otherWay, List.forall_mem_cons.mpr ⟨ok_Z_isKind, List.forall_mem_cons.mpr ⟨ok_Z_isOfEdge, List.forall_mem_cons.mpr ⟨ok_Z_itemLength, List.forall_mem_cons.mpr ⟨ok_Z_kindOfLetter, List.forall_mem_cons.mpr ⟨ok_Z_letterOfKind, List.forall_mem_cons.mpr ⟨ok_Z_letterOf, List.forall_mem_cons.mpr ⟨ok_Z_isPoint, List.forall_mem_cons.mpr ⟨ok_Z_isIn, List.forall_mem_cons.mpr ⟨ok_Z_lowestOf, List.forall_mem_cons.mpr ⟨ok_M_in, List.forall_mem_cons.mpr ⟨ok_M_codeOf, List.forall_mem_cons.mpr ⟨ok_M_kindOf, List.forall_mem_cons.mpr ⟨ok_M_oneOf, List.forall_mem_cons.mpr ⟨ok_M_otherOf, List.forall_mem_cons.mpr ⟨ok_M_has, List.forall_mem_cons.mpr ⟨ok_M_may, List.forall_mem_cons.mpr ⟨ok_M_reach, List.forall_mem_cons.mpr ⟨ok_M_freePiece, List.forall_mem_cons.mpr ⟨ok_M_kinOf, List.forall_mem_cons.mpr ⟨ok_M_makesKin, List.forall_mem_cons.mpr ⟨ok_M_ends, List.forall_mem_cons.mpr ⟨ok_M_goes, List.forall_mem_cons.mpr ⟨ok_M_comes, List.forall_mem_cons.mpr ⟨ok_M_parts, List.forall_mem_cons.mpr ⟨ok_M_bindsNear, List.forall_mem_cons.mpr ⟨ok_M_joins, List.forall_mem_cons.mpr ⟨ok_M_does, List.forall_mem_cons.mpr ⟨ok_M_begins, List.forall_mem_cons.mpr ⟨ok_M_runs, List.forall_mem_cons.mpr ⟨ok_M_lowestOf, List.forall_mem_cons.mpr ⟨ok_M_runsAll, List.forall_mem_cons.mpr ⟨ok_M_lengthOf, List.forall_mem_cons.mpr ⟨ok_M_bits, List.forall_mem_cons.mpr ⟨ok_M_edges, List.forall_mem_cons.mpr ⟨ok_M_write, List.forall_mem_cons.mpr ⟨ok_M_wipe, List.forall_mem_cons.mpr ⟨ok_M_figureAt, List.forall_mem_cons.mpr ⟨ok_M_item, List.forall_mem_cons.mpr ⟨ok_M_reads, List.forall_mem_cons.mpr ⟨ok_M_fault, List.forall_mem_cons.mpr ⟨ok_M_lay, List.forall_mem_cons.mpr ⟨ok_M_notes, List.forall_mem_cons.mpr ⟨ok_M_act, List.forall_mem_cons.mpr ⟨ok_M_drop, List.forall_mem_cons.mpr ⟨ok_M_sets, List.forall_mem_cons.mpr ⟨ok_M_others, List.forall_mem_cons.mpr ⟨ok_M_swaps, List.forall_mem_cons.mpr ⟨ok_M_exchange, List.forall_mem_cons.mpr ⟨ok_M_backwards, List.forall_mem_cons.mpr ⟨ok_M_clear, List.forall_mem_cons.mpr ⟨ok_M_undo, List.forall_mem_cons.mpr ⟨ok_M_letterOf, List.forall_mem_cons.mpr ⟨ok_M_spelt, List.forall_mem_cons.mpr ⟨ok_M_told, List.forall_mem_cons.mpr ⟨ok_M_graph, List.forall_mem_cons.mpr ⟨ok_M_piece, List.forall_mem_cons.mpr ⟨ok_M_root, List.forall_mem_cons.mpr ⟨ok_M_kin, List.forall_mem_cons.mpr ⟨ok_M_open, List.forall_mem_cons.mpr ⟨ok_M_bar, List.forall_mem_cons.mpr ⟨ok_M_lasting, List.forall_mem_cons.mpr ⟨ok_M_longer, List.forall_mem_cons.mpr ⟨ok_M_longest, List.forall_mem_cons.mpr ⟨ok_M_steadiest, List.forall_mem_cons.mpr ⟨ok_M_keep, List.forall_mem_cons.mpr ⟨ok_M_turnsOver, List.forall_mem_cons.mpr ⟨ok_M_other, List.forall_mem_cons.mpr ⟨ok_M_back, List.forall_mem_cons.mpr ⟨ok_M_count, List.forall_mem_cons.mpr ⟨ok_Int_compare, List.forall_mem_cons.mpr ⟨ok_Int_numberOfTrailingZeros, List.forall_mem_cons.mpr ⟨ok_Int_bitCount, List.forall_mem_cons.mpr ⟨ok_Arr_fill, fun _ h => absurd h List.not_mem_nil⟩⟩⟩⟩⟩⟩⟩⟩⟩⟩⟩⟩⟩⟩⟩⟩⟩⟩⟩⟩⟩⟩⟩⟩⟩⟩⟩⟩⟩⟩⟩⟩⟩⟩⟩⟩⟩⟩⟩⟩⟩⟩⟩⟩⟩⟩⟩⟩⟩⟩⟩⟩⟩⟩⟩⟩⟩⟩⟩⟩⟩⟩⟩⟩⟩⟩⟩⟩⟩⟩⟩⟩⟩⟩⟩⟩⟩⟩⟩⟩⟩⟩⟩⟩⟩⟩⟩⟩⟩⟩⟩⟩⟩⟩⟩⟩⟩⟩⟩⟩⟩⟩⟩⟩⟩⟩⟩⟩⟩⟩⟩⟩⟩⟩⟩⟩⟩⟩⟩⟩⟩⟩⟩⟩⟩⟩⟩⟩⟩⟩⟩⟩⟩⟩⟩⟩⟩⟩⟩⟩⟩⟩⟩⟩⟩⟩⟩⟩⟩⟩⟩⟩⟩⟩⟩⟩⟩⟩⟩⟩⟩⟩⟩⟩⟩
end
section
/-! The abstract machine's rows: an instruction, a row. -/
theorem wq_null {cal : mC} {C : List (Nat × mE)} {rt : Option FieldType} {Q : Option Value → mH → Prop} {pc nx x y z : Nat} {lv st : List Value} {h : mH}  (hf : mfetch C pc = some (.aconst_null, nx, x, y, z))  (k : WP cal C rt Q nx lv (.null :: st) h) : WP cal C rt Q pc lv st h := WP.in hf k
theorem wq_iconst {cal : mC} {C : List (Nat × mE)} {rt : Option FieldType} {Q : Option Value → mH → Prop} {pc nx x y z : Nat} {lv st : List Value} {h : mH} {n : Int} {v : Int32} (hf : mfetch C pc = some (.iconst n, nx, x, y, z)) (hv : Int32.ofInt n = v) (k : WP cal C rt Q nx lv (.int v :: st) h) : WP cal C rt Q pc lv st h := WP.in hf (by subst hv; exact k)
theorem wq_bipush {cal : mC} {C : List (Nat × mE)} {rt : Option FieldType} {Q : Option Value → mH → Prop} {pc nx x y z : Nat} {lv st : List Value} {h : mH} {n : Int} {v : Int32} (hf : mfetch C pc = some (.bipush n, nx, x, y, z)) (hv : (Int8.ofInt n).toInt32 = v) (k : WP cal C rt Q nx lv (.int v :: st) h) : WP cal C rt Q pc lv st h := WP.in hf (by subst hv; exact k)
theorem wq_sipush {cal : mC} {C : List (Nat × mE)} {rt : Option FieldType} {Q : Option Value → mH → Prop} {pc nx x y z : Nat} {lv st : List Value} {h : mH} {n : Int} {v : Int32} (hf : mfetch C pc = some (.sipush n, nx, x, y, z)) (hv : (Int16.ofInt n).toInt32 = v) (k : WP cal C rt Q nx lv (.int v :: st) h) : WP cal C rt Q pc lv st h := WP.in hf (by subst hv; exact k)
theorem wq_ldcw {cal : mC} {C : List (Nat × mE)} {rt : Option FieldType} {Q : Option Value → mH → Prop} {pc nx x y z : Nat} {lv st : List Value} {h : mH} {n : Nat} {v : Int32} (hf : mfetch C pc = some (.ldc_w n, nx, x, y, z)) (hv : nI x = v) (k : WP cal C rt Q nx lv (.int v :: st) h) : WP cal C rt Q pc lv st h := WP.in hf (by subst hv; exact k)
theorem wq_iload {cal : mC} {C : List (Nat × mE)} {rt : Option FieldType} {Q : Option Value → mH → Prop} {pc nx x y z : Nat} {lv st : List Value} {h : mH} {j : Nat} {a : Int32} (hf : mfetch C pc = some (.iload j, nx, x, y, z)) (hl : lv[j]? = some (.int a)) (k : WP cal C rt Q nx lv (.int a :: st) h) : WP cal C rt Q pc lv st h := WP.in hf (by show m_lI lv j _; unfold m_lI; rw [hl]; exact k)
theorem wq_iload_n {cal : mC} {C : List (Nat × mE)} {rt : Option FieldType} {Q : Option Value → mH → Prop} {pc nx x y z : Nat} {lv st : List Value} {h : mH} {j : Fin 4} {a : Int32} (hf : mfetch C pc = some (.iload_n j, nx, x, y, z)) (hl : lv[j.val]? = some (.int a)) (k : WP cal C rt Q nx lv (.int a :: st) h) : WP cal C rt Q pc lv st h := WP.in hf (by show m_lI lv j.val _; unfold m_lI; rw [hl]; exact k)
theorem wq_aload {cal : mC} {C : List (Nat × mE)} {rt : Option FieldType} {Q : Option Value → mH → Prop} {pc nx x y z : Nat} {lv st : List Value} {h : mH} {j : Nat} {a : Nat} (hf : mfetch C pc = some (.aload j, nx, x, y, z)) (hl : lv[j]? = some (.ref a)) (k : WP cal C rt Q nx lv (.ref a :: st) h) : WP cal C rt Q pc lv st h := WP.in hf (by show m_lA lv j (fun v => WP cal C rt Q nx lv (v :: st) h); unfold m_lA; rw [hl]; exact k)
theorem wq_aload_n {cal : mC} {C : List (Nat × mE)} {rt : Option FieldType} {Q : Option Value → mH → Prop} {pc nx x y z : Nat} {lv st : List Value} {h : mH} {j : Fin 4} {a : Nat} (hf : mfetch C pc = some (.aload_n j, nx, x, y, z)) (hl : lv[j.val]? = some (.ref a)) (k : WP cal C rt Q nx lv (.ref a :: st) h) : WP cal C rt Q pc lv st h := WP.in hf (by show m_lA lv j.val (fun v => WP cal C rt Q nx lv (v :: st) h); unfold m_lA; rw [hl]; exact k)
theorem wq_aload_nN {cal : mC} {C : List (Nat × mE)} {rt : Option FieldType} {Q : Option Value → mH → Prop} {pc nx x y z : Nat} {lv st : List Value} {h : mH} {j : Fin 4} (hf : mfetch C pc = some (.aload_n j, nx, x, y, z)) (hl : lv[j.val]? = some .null) (k : WP cal C rt Q nx lv (.null :: st) h) : WP cal C rt Q pc lv st h := WP.in hf (by show m_lA lv j.val (fun v => WP cal C rt Q nx lv (v :: st) h); unfold m_lA; rw [hl]; exact k)
theorem wq_istore {cal : mC} {C : List (Nat × mE)} {rt : Option FieldType} {Q : Option Value → mH → Prop} {pc nx x y z : Nat} {lv st : List Value} {h : mH} {j : Nat} {a : Int32} {lv' : List Value} (hf : mfetch C pc = some (.istore j, nx, x, y, z)) (hj : Nat.blt j lv.length = true) (hl : lv.set j (.int a) = lv') (k : WP cal C rt Q nx lv' st h) : WP cal C rt Q pc lv (.int a :: st) h := WP.in hf (by subst hl; exact ⟨Nat.le_of_ble_eq_true hj, k⟩)
theorem wq_istore_n {cal : mC} {C : List (Nat × mE)} {rt : Option FieldType} {Q : Option Value → mH → Prop} {pc nx x y z : Nat} {lv st : List Value} {h : mH} {j : Fin 4} {a : Int32} {lv' : List Value} (hf : mfetch C pc = some (.istore_n j, nx, x, y, z)) (hj : Nat.blt j.val lv.length = true) (hl : lv.set j.val (.int a) = lv') (k : WP cal C rt Q nx lv' st h) : WP cal C rt Q pc lv (.int a :: st) h := WP.in hf (by subst hl; exact ⟨Nat.le_of_ble_eq_true hj, k⟩)
theorem wq_astore_n {cal : mC} {C : List (Nat × mE)} {rt : Option FieldType} {Q : Option Value → mH → Prop} {pc nx x y z : Nat} {lv st : List Value} {h : mH} {j : Fin 4} {a : Nat} {lv' : List Value} (hf : mfetch C pc = some (.astore_n j, nx, x, y, z)) (hj : Nat.blt j.val lv.length = true) (hl : lv.set j.val (.ref a) = lv') (k : WP cal C rt Q nx lv' st h) : WP cal C rt Q pc lv (.ref a :: st) h := WP.in hf (by subst hl; exact ⟨Nat.le_of_ble_eq_true hj, k⟩)
theorem wq_astore_nN {cal : mC} {C : List (Nat × mE)} {rt : Option FieldType} {Q : Option Value → mH → Prop} {pc nx x y z : Nat} {lv st : List Value} {h : mH} {j : Fin 4} {lv' : List Value} (hf : mfetch C pc = some (.astore_n j, nx, x, y, z)) (hj : Nat.blt j.val lv.length = true) (hl : lv.set j.val .null = lv') (k : WP cal C rt Q nx lv' st h) : WP cal C rt Q pc lv (.null :: st) h := WP.in hf (by subst hl; exact ⟨Nat.le_of_ble_eq_true hj, k⟩)
theorem wq_astore {cal : mC} {C : List (Nat × mE)} {rt : Option FieldType} {Q : Option Value → mH → Prop} {pc nx x y z : Nat} {lv st : List Value} {h : mH} {j : Nat} {a : Nat} {lv' : List Value} (hf : mfetch C pc = some (.astore j, nx, x, y, z)) (hj : Nat.blt j lv.length = true) (hl : lv.set j (.ref a) = lv') (k : WP cal C rt Q nx lv' st h) : WP cal C rt Q pc lv (.ref a :: st) h := WP.in hf (by subst hl; exact ⟨Nat.le_of_ble_eq_true hj, k⟩)
theorem wq_iinc {cal : mC} {C : List (Nat × mE)} {rt : Option FieldType} {Q : Option Value → mH → Prop} {pc nx x y z : Nat} {lv st : List Value} {h : mH} {j : Nat} {n : Int} {a v : Int32} {lv' : List Value} (hf : mfetch C pc = some (.iinc j n, nx, x, y, z)) (hl : lv[j]? = some (.int a)) (hv : a + Int32.ofInt n = v) (hs : lv.set j (.int v) = lv') (k : WP cal C rt Q nx lv' st h) : WP cal C rt Q pc lv st h := WP.in hf (by subst hv; subst hs; show m_lI lv j _; unfold m_lI; rw [hl]; exact k)
theorem wq_iadd {cal : mC} {C : List (Nat × mE)} {rt : Option FieldType} {Q : Option Value → mH → Prop} {pc nx x y z : Nat} {lv st : List Value} {h : mH} {a b v : Int32} (hf : mfetch C pc = some (.iadd, nx, x, y, z)) (hv : a + b = v) (k : WP cal C rt Q nx lv (.int v :: st) h) : WP cal C rt Q pc lv (.int b :: .int a :: st) h := WP.in hf (by subst hv; exact k)
theorem wq_isub {cal : mC} {C : List (Nat × mE)} {rt : Option FieldType} {Q : Option Value → mH → Prop} {pc nx x y z : Nat} {lv st : List Value} {h : mH} {a b v : Int32} (hf : mfetch C pc = some (.isub, nx, x, y, z)) (hv : a - b = v) (k : WP cal C rt Q nx lv (.int v :: st) h) : WP cal C rt Q pc lv (.int b :: .int a :: st) h := WP.in hf (by subst hv; exact k)
theorem wq_imul {cal : mC} {C : List (Nat × mE)} {rt : Option FieldType} {Q : Option Value → mH → Prop} {pc nx x y z : Nat} {lv st : List Value} {h : mH} {a b v : Int32} (hf : mfetch C pc = some (.imul, nx, x, y, z)) (hv : a * b = v) (k : WP cal C rt Q nx lv (.int v :: st) h) : WP cal C rt Q pc lv (.int b :: .int a :: st) h := WP.in hf (by subst hv; exact k)
theorem wq_iand {cal : mC} {C : List (Nat × mE)} {rt : Option FieldType} {Q : Option Value → mH → Prop} {pc nx x y z : Nat} {lv st : List Value} {h : mH} {a b v : Int32} (hf : mfetch C pc = some (.iand, nx, x, y, z)) (hv : a &&& b = v) (k : WP cal C rt Q nx lv (.int v :: st) h) : WP cal C rt Q pc lv (.int b :: .int a :: st) h := WP.in hf (by subst hv; exact k)
theorem wq_ior {cal : mC} {C : List (Nat × mE)} {rt : Option FieldType} {Q : Option Value → mH → Prop} {pc nx x y z : Nat} {lv st : List Value} {h : mH} {a b v : Int32} (hf : mfetch C pc = some (.ior, nx, x, y, z)) (hv : a ||| b = v) (k : WP cal C rt Q nx lv (.int v :: st) h) : WP cal C rt Q pc lv (.int b :: .int a :: st) h := WP.in hf (by subst hv; exact k)
theorem wq_ixor {cal : mC} {C : List (Nat × mE)} {rt : Option FieldType} {Q : Option Value → mH → Prop} {pc nx x y z : Nat} {lv st : List Value} {h : mH} {a b v : Int32} (hf : mfetch C pc = some (.ixor, nx, x, y, z)) (hv : a ^^^ b = v) (k : WP cal C rt Q nx lv (.int v :: st) h) : WP cal C rt Q pc lv (.int b :: .int a :: st) h := WP.in hf (by subst hv; exact k)
theorem wq_ishl {cal : mC} {C : List (Nat × mE)} {rt : Option FieldType} {Q : Option Value → mH → Prop} {pc nx x y z : Nat} {lv st : List Value} {h : mH} {a b v : Int32} (hf : mfetch C pc = some (.ishl, nx, x, y, z)) (hv : a <<< (b &&& 31) = v) (k : WP cal C rt Q nx lv (.int v :: st) h) : WP cal C rt Q pc lv (.int b :: .int a :: st) h := WP.in hf (by subst hv; exact k)
theorem wq_ishr {cal : mC} {C : List (Nat × mE)} {rt : Option FieldType} {Q : Option Value → mH → Prop} {pc nx x y z : Nat} {lv st : List Value} {h : mH} {a b v : Int32} (hf : mfetch C pc = some (.ishr, nx, x, y, z)) (hv : a >>> (b &&& 31) = v) (k : WP cal C rt Q nx lv (.int v :: st) h) : WP cal C rt Q pc lv (.int b :: .int a :: st) h := WP.in hf (by subst hv; exact k)
theorem wq_iushr {cal : mC} {C : List (Nat × mE)} {rt : Option FieldType} {Q : Option Value → mH → Prop} {pc nx x y z : Nat} {lv st : List Value} {h : mH} {a b v : Int32} (hf : mfetch C pc = some (.iushr, nx, x, y, z)) (hv : (a.toUInt32 >>> (b.toUInt32 &&& Int32.toUInt32 31)).toInt32 = v) (k : WP cal C rt Q nx lv (.int v :: st) h) : WP cal C rt Q pc lv (.int b :: .int a :: st) h := WP.in hf (by subst hv; exact k)
theorem wq_idiv {cal : mC} {C : List (Nat × mE)} {rt : Option FieldType} {Q : Option Value → mH → Prop} {pc nx x y z : Nat} {lv st : List Value} {h : mH} {a b v : Int32} (hf : mfetch C pc = some (.idiv, nx, x, y, z)) (hb : ¬ b = 0) (hv : a / b = v) (k : WP cal C rt Q nx lv (.int v :: st) h) : WP cal C rt Q pc lv (.int b :: .int a :: st) h := WP.in hf (by subst hv; exact ⟨hb, k⟩)
theorem wq_irem {cal : mC} {C : List (Nat × mE)} {rt : Option FieldType} {Q : Option Value → mH → Prop} {pc nx x y z : Nat} {lv st : List Value} {h : mH} {a b v : Int32} (hf : mfetch C pc = some (.irem, nx, x, y, z)) (hb : ¬ b = 0) (hv : a - a / b * b = v) (k : WP cal C rt Q nx lv (.int v :: st) h) : WP cal C rt Q pc lv (.int b :: .int a :: st) h := WP.in hf (by subst hv; exact ⟨hb, k⟩)
theorem wq_i2b {cal : mC} {C : List (Nat × mE)} {rt : Option FieldType} {Q : Option Value → mH → Prop} {pc nx x y z : Nat} {lv st : List Value} {h : mH} {a v : Int32} (hf : mfetch C pc = some (.i2b, nx, x, y, z)) (hv : a.toInt8.toInt32 = v) (k : WP cal C rt Q nx lv (.int v :: st) h) : WP cal C rt Q pc lv (.int a :: st) h := WP.in hf (by subst hv; exact k)
theorem wq_dup {cal : mC} {C : List (Nat × mE)} {rt : Option FieldType} {Q : Option Value → mH → Prop} {pc nx x y z : Nat} {lv st : List Value} {h : mH} {v : Value} (hf : mfetch C pc = some (.dup, nx, x, y, z)) (hv : v.category = 1) (k : WP cal C rt Q nx lv (v :: v :: st) h) : WP cal C rt Q pc lv (v :: st) h := WP.in hf ⟨hv, k⟩
theorem wq_dup2 {cal : mC} {C : List (Nat × mE)} {rt : Option FieldType} {Q : Option Value → mH → Prop} {pc nx x y z : Nat} {lv st : List Value} {h : mH} {v w : Value} (hf : mfetch C pc = some (.dup2, nx, x, y, z)) (hv : v.category = 1) (hw : w.category = 1) (k : WP cal C rt Q nx lv (v :: w :: v :: w :: st) h) : WP cal C rt Q pc lv (v :: w :: st) h := WP.in hf ⟨hv, hw, k⟩
theorem wq_pop {cal : mC} {C : List (Nat × mE)} {rt : Option FieldType} {Q : Option Value → mH → Prop} {pc nx x y z : Nat} {lv st : List Value} {h : mH} {v : Value} (hf : mfetch C pc = some (.pop, nx, x, y, z)) (hv : v.category = 1) (k : WP cal C rt Q nx lv st h) : WP cal C rt Q pc lv (v :: st) h := WP.in hf ⟨hv, k⟩
theorem wq_getfield {cal : mC} {C : List (Nat × mE)} {rt : Option FieldType} {Q : Option Value → mH → Prop} {pc nx x y z : Nat} {lv st : List Value} {h : mH} {n a : Nat} {fs : List Value} {v : Value} (hf : mfetch C pc = some (.getfield n, nx, x, y, z)) (ho : h[a]? = some (.inr (x, fs))) (hv : fs[y]? = some v) (k : WP cal C rt Q nx lv (v :: st) h) : WP cal C rt Q pc lv (.ref a :: st) h := WP.in hf (by show m_gO h a (fun ci fs => ci = x ∧ ∃ v, fs[y]? = some v ∧ WP cal C rt Q nx lv (v :: st) h); unfold m_gO; rw [ho]; exact ⟨rfl, v, hv, k⟩)
theorem wq_putfield {cal : mC} {C : List (Nat × mE)} {rt : Option FieldType} {Q : Option Value → mH → Prop} {pc nx x y z : Nat} {lv st : List Value} {h : mH} {n a : Nat} {fs : List Value} {v : Int32} {h' : mH} (hf : mfetch C pc = some (.putfield n, nx, x, y, z)) (ho : h[a]? = some (.inr (x, fs))) (hl : Nat.blt y fs.length = true) (hs : h.set a (.inr (x, fs.set y (.int v))) = h') (k : WP cal C rt Q nx lv st h') : WP cal C rt Q pc lv (.int v :: .ref a :: st) h := WP.in hf (by subst hs; show m_gO h a (fun ci fs => ci = x ∧ y < fs.length ∧ WP cal C rt Q nx lv st (h.set a (.inr (ci, fs.set y (.int v))))); unfold m_gO; rw [ho]; exact ⟨rfl, Nat.le_of_ble_eq_true hl, k⟩)
theorem wq_iaload {cal : mC} {C : List (Nat × mE)} {rt : Option FieldType} {Q : Option Value → mH → Prop} {pc nx x y z : Nat} {lv st : List Value} {h : mH} {n a : Nat} {f : Nat → Int32} {i v : Int32} (hf : mfetch C pc = some (.iaload, nx, x, y, z)) (ho : h[a]? = some (.inl (0, n, .inl f))) (hi : vp_in i n) (hv : f i.toNatClampNeg = v) (k : WP cal C rt Q nx lv (.int v :: st) h) : WP cal C rt Q pc lv (.int i :: .ref a :: st) h := WP.in hf (by subst hv; show m_gA h a 0 _; unfold m_gA; rw [ho]; exact ⟨rfl, hi, k⟩)
theorem wq_baload {cal : mC} {C : List (Nat × mE)} {rt : Option FieldType} {Q : Option Value → mH → Prop} {pc nx x y z : Nat} {lv st : List Value} {h : mH} {n a : Nat} {f : Nat → Int32} {i v : Int32} (hf : mfetch C pc = some (.baload, nx, x, y, z)) (ho : h[a]? = some (.inl (1, n, .inl f))) (hi : vp_in i n) (hv : f i.toNatClampNeg = v) (k : WP cal C rt Q nx lv (.int v :: st) h) : WP cal C rt Q pc lv (.int i :: .ref a :: st) h := WP.in hf (by subst hv; show m_gA h a 1 _; unfold m_gA; rw [ho]; exact ⟨rfl, hi, k⟩)
theorem wq_iastore {cal : mC} {C : List (Nat × mE)} {rt : Option FieldType} {Q : Option Value → mH → Prop} {pc nx x y z : Nat} {lv st : List Value} {h : mH} {n a : Nat} {f : Nat → Int32} {i v : Int32} {h' : mH} (hf : mfetch C pc = some (.iastore, nx, x, y, z)) (ho : h[a]? = some (.inl (0, n, .inl f))) (hi : vp_in i n) (hs : h.set a (.inl (0, n, .inl (upd f i.toNatClampNeg v))) = h') (k : WP cal C rt Q nx lv st h') : WP cal C rt Q pc lv (.int v :: .int i :: .ref a :: st) h := WP.in hf (by subst hs; show m_gA h a 0 _; unfold m_gA; rw [ho]; exact ⟨rfl, hi, k⟩)
theorem wq_bastore {cal : mC} {C : List (Nat × mE)} {rt : Option FieldType} {Q : Option Value → mH → Prop} {pc nx x y z : Nat} {lv st : List Value} {h : mH} {n a : Nat} {f : Nat → Int32} {i v : Int32} {h' : mH} (hf : mfetch C pc = some (.bastore, nx, x, y, z)) (ho : h[a]? = some (.inl (1, n, .inl f))) (hi : vp_in i n) (hs : h.set a (.inl (1, n, .inl (upd f i.toNatClampNeg (vp_nar .byte v)))) = h') (k : WP cal C rt Q nx lv st h') : WP cal C rt Q pc lv (.int v :: .int i :: .ref a :: st) h := WP.in hf (by subst hs; show m_gA h a 1 _; unfold m_gA; rw [ho]; exact ⟨rfl, hi, k⟩)
theorem wq_aaload {cal : mC} {C : List (Nat × mE)} {rt : Option FieldType} {Q : Option Value → mH → Prop} {pc nx x y z : Nat} {lv st : List Value} {h : mH} {n a : Nat} {g : Nat → Option Nat} {i : Int32} {q : Nat} (hf : mfetch C pc = some (.aaload, nx, x, y, z)) (ho : h[a]? = some (.inl (2, n, .inr (.inr (.inr (.inr g)))))) (hi : vp_in i n) (hg : g i.toNatClampNeg = some q) (k : WP cal C rt Q nx lv (.ref q :: st) h) : WP cal C rt Q pc lv (.int i :: .ref a :: st) h := WP.in hf (by show m_gQ h a _; unfold m_gQ; rw [ho]; refine ⟨rfl, hi, ?_⟩; rw [hg]; exact k)
theorem wq_aastore {cal : mC} {C : List (Nat × mE)} {rt : Option FieldType} {Q : Option Value → mH → Prop} {pc nx x y z : Nat} {lv st : List Value} {h : mH} {n a q : Nat} {fs : List Value} {g : Nat → Option Nat} {i : Int32} {h' : mH} (hf : mfetch C pc = some (.aastore, nx, x, y, z)) (ho : h[a]? = some (.inl (2, n, .inr (.inr (.inr (.inr g)))))) (hq : h[q]? = some (.inr (3, fs))) (hi : vp_in i n) (hs : h.set a (.inl (2, n, .inr (.inr (.inr (.inr (va_up g i.toNatClampNeg (some q))))))) = h') (k : WP cal C rt Q nx lv st h') : WP cal C rt Q pc lv (.ref q :: .int i :: .ref a :: st) h := WP.in hf (by subst hs; show m_gQ h a _; unfold m_gQ; rw [ho]; refine ⟨rfl, ?_⟩; unfold m_gO; rw [hq]; exact ⟨rfl, hi, k⟩)
theorem wq_alen {cal : mC} {C : List (Nat × mE)} {rt : Option FieldType} {Q : Option Value → mH → Prop} {pc nx x y z : Nat} {lv st : List Value} {h : mH} {t n a : Nat} {f : (Nat → Int32) ⊕ (Nat → Int64) ⊕ (Nat → UInt32) ⊕ (Nat → UInt64) ⊕ (Nat → Option Nat)} {v : Int32} (hf : mfetch C pc = some (.arraylength, nx, x, y, z)) (ho : h[a]? = some (.inl (t, n, f))) (ht : Nat.blt t 3 = true) (hv : nI n = v) (k : WP cal C rt Q nx lv (.int v :: st) h) : WP cal C rt Q pc lv (.ref a :: st) h := WP.in hf (by subst hv; show m_gL h a _; unfold m_gL; rw [ho]; exact ⟨Nat.le_of_ble_eq_true ht, k⟩)
theorem wq_goto {cal : mC} {C : List (Nat × mE)} {rt : Option FieldType} {Q : Option Value → mH → Prop} {pc nx x y z : Nat} {lv st : List Value} {h : mH} {n : Int} (hf : mfetch C pc = some (.goto n, nx, x, y, z))  (k : WP cal C rt Q x lv st h) : WP cal C rt Q pc lv st h := WP.in hf k
theorem wq_if_eq {cal : mC} {C : List (Nat × mE)} {rt : Option FieldType} {Q : Option Value → mH → Prop} {pc nx x y z : Nat} {lv st : List Value} {h : mH} {a : Int32} {n : Int} (hf : mfetch C pc = some (.ifCond .eq n, nx, x, y, z)) (kt : a = 0 → WP cal C rt Q x lv st h) (kf : ¬ a = 0 → WP cal C rt Q nx lv st h) : WP cal C rt Q pc lv (.int a :: st) h := WP.in hf ⟨kt, kf⟩
theorem wq_if_ne {cal : mC} {C : List (Nat × mE)} {rt : Option FieldType} {Q : Option Value → mH → Prop} {pc nx x y z : Nat} {lv st : List Value} {h : mH} {a : Int32} {n : Int} (hf : mfetch C pc = some (.ifCond .ne n, nx, x, y, z)) (kt : ¬ a = 0 → WP cal C rt Q x lv st h) (kf : a = 0 → WP cal C rt Q nx lv st h) : WP cal C rt Q pc lv (.int a :: st) h := WP.in hf ⟨kt, kf⟩
theorem wq_if_lt {cal : mC} {C : List (Nat × mE)} {rt : Option FieldType} {Q : Option Value → mH → Prop} {pc nx x y z : Nat} {lv st : List Value} {h : mH} {a : Int32} {n : Int} (hf : mfetch C pc = some (.ifCond .lt n, nx, x, y, z)) (kt : a < 0 → WP cal C rt Q x lv st h) (kf : ¬ a < 0 → WP cal C rt Q nx lv st h) : WP cal C rt Q pc lv (.int a :: st) h := WP.in hf ⟨kt, kf⟩
theorem wq_if_ge {cal : mC} {C : List (Nat × mE)} {rt : Option FieldType} {Q : Option Value → mH → Prop} {pc nx x y z : Nat} {lv st : List Value} {h : mH} {a : Int32} {n : Int} (hf : mfetch C pc = some (.ifCond .ge n, nx, x, y, z)) (kt : 0 ≤ a → WP cal C rt Q x lv st h) (kf : ¬ 0 ≤ a → WP cal C rt Q nx lv st h) : WP cal C rt Q pc lv (.int a :: st) h := WP.in hf ⟨kt, kf⟩
theorem wq_if_gt {cal : mC} {C : List (Nat × mE)} {rt : Option FieldType} {Q : Option Value → mH → Prop} {pc nx x y z : Nat} {lv st : List Value} {h : mH} {a : Int32} {n : Int} (hf : mfetch C pc = some (.ifCond .gt n, nx, x, y, z)) (kt : 0 < a → WP cal C rt Q x lv st h) (kf : ¬ 0 < a → WP cal C rt Q nx lv st h) : WP cal C rt Q pc lv (.int a :: st) h := WP.in hf ⟨kt, kf⟩
theorem wq_if_le {cal : mC} {C : List (Nat × mE)} {rt : Option FieldType} {Q : Option Value → mH → Prop} {pc nx x y z : Nat} {lv st : List Value} {h : mH} {a : Int32} {n : Int} (hf : mfetch C pc = some (.ifCond .le n, nx, x, y, z)) (kt : a ≤ 0 → WP cal C rt Q x lv st h) (kf : ¬ a ≤ 0 → WP cal C rt Q nx lv st h) : WP cal C rt Q pc lv (.int a :: st) h := WP.in hf ⟨kt, kf⟩
theorem wq_ic_eq {cal : mC} {C : List (Nat × mE)} {rt : Option FieldType} {Q : Option Value → mH → Prop} {pc nx x y z : Nat} {lv st : List Value} {h : mH} {a b : Int32} {n : Int} (hf : mfetch C pc = some (.if_icmp .eq n, nx, x, y, z)) (kt : a = b → WP cal C rt Q x lv st h) (kf : ¬ a = b → WP cal C rt Q nx lv st h) : WP cal C rt Q pc lv (.int b :: .int a :: st) h := WP.in hf ⟨kt, kf⟩
theorem wq_ic_ne {cal : mC} {C : List (Nat × mE)} {rt : Option FieldType} {Q : Option Value → mH → Prop} {pc nx x y z : Nat} {lv st : List Value} {h : mH} {a b : Int32} {n : Int} (hf : mfetch C pc = some (.if_icmp .ne n, nx, x, y, z)) (kt : ¬ a = b → WP cal C rt Q x lv st h) (kf : a = b → WP cal C rt Q nx lv st h) : WP cal C rt Q pc lv (.int b :: .int a :: st) h := WP.in hf ⟨kt, kf⟩
theorem wq_ic_lt {cal : mC} {C : List (Nat × mE)} {rt : Option FieldType} {Q : Option Value → mH → Prop} {pc nx x y z : Nat} {lv st : List Value} {h : mH} {a b : Int32} {n : Int} (hf : mfetch C pc = some (.if_icmp .lt n, nx, x, y, z)) (kt : a < b → WP cal C rt Q x lv st h) (kf : ¬ a < b → WP cal C rt Q nx lv st h) : WP cal C rt Q pc lv (.int b :: .int a :: st) h := WP.in hf ⟨kt, kf⟩
theorem wq_ic_ge {cal : mC} {C : List (Nat × mE)} {rt : Option FieldType} {Q : Option Value → mH → Prop} {pc nx x y z : Nat} {lv st : List Value} {h : mH} {a b : Int32} {n : Int} (hf : mfetch C pc = some (.if_icmp .ge n, nx, x, y, z)) (kt : b ≤ a → WP cal C rt Q x lv st h) (kf : ¬ b ≤ a → WP cal C rt Q nx lv st h) : WP cal C rt Q pc lv (.int b :: .int a :: st) h := WP.in hf ⟨kt, kf⟩
theorem wq_ic_gt {cal : mC} {C : List (Nat × mE)} {rt : Option FieldType} {Q : Option Value → mH → Prop} {pc nx x y z : Nat} {lv st : List Value} {h : mH} {a b : Int32} {n : Int} (hf : mfetch C pc = some (.if_icmp .gt n, nx, x, y, z)) (kt : b < a → WP cal C rt Q x lv st h) (kf : ¬ b < a → WP cal C rt Q nx lv st h) : WP cal C rt Q pc lv (.int b :: .int a :: st) h := WP.in hf ⟨kt, kf⟩
theorem wq_ic_le {cal : mC} {C : List (Nat × mE)} {rt : Option FieldType} {Q : Option Value → mH → Prop} {pc nx x y z : Nat} {lv st : List Value} {h : mH} {a b : Int32} {n : Int} (hf : mfetch C pc = some (.if_icmp .le n, nx, x, y, z)) (kt : a ≤ b → WP cal C rt Q x lv st h) (kf : ¬ a ≤ b → WP cal C rt Q nx lv st h) : WP cal C rt Q pc lv (.int b :: .int a :: st) h := WP.in hf ⟨kt, kf⟩
theorem wq_ifnull {cal : mC} {C : List (Nat × mE)} {rt : Option FieldType} {Q : Option Value → mH → Prop} {pc nx x y z : Nat} {lv st : List Value} {h : mH} {n : Int} {a : Nat} (hf : mfetch C pc = some (.ifnull n, nx, x, y, z))  (k : WP cal C rt Q nx lv st h) : WP cal C rt Q pc lv (.ref a :: st) h := WP.in hf ⟨fun q => (by cases q), fun _ => k⟩
theorem wq_ifnullN {cal : mC} {C : List (Nat × mE)} {rt : Option FieldType} {Q : Option Value → mH → Prop} {pc nx x y z : Nat} {lv st : List Value} {h : mH} {n : Int} (hf : mfetch C pc = some (.ifnull n, nx, x, y, z))  (k : WP cal C rt Q x lv st h) : WP cal C rt Q pc lv (.null :: st) h := WP.in hf ⟨fun _ => k, fun q => absurd rfl q⟩
theorem wq_ifnonnull {cal : mC} {C : List (Nat × mE)} {rt : Option FieldType} {Q : Option Value → mH → Prop} {pc nx x y z : Nat} {lv st : List Value} {h : mH} {n : Int} {a : Nat} (hf : mfetch C pc = some (.ifnonnull n, nx, x, y, z))  (k : WP cal C rt Q x lv st h) : WP cal C rt Q pc lv (.ref a :: st) h := WP.in hf ⟨fun _ => k, fun q => (by cases q)⟩
theorem wq_ifnonnullN {cal : mC} {C : List (Nat × mE)} {rt : Option FieldType} {Q : Option Value → mH → Prop} {pc nx x y z : Nat} {lv st : List Value} {h : mH} {n : Int} (hf : mfetch C pc = some (.ifnonnull n, nx, x, y, z))  (k : WP cal C rt Q nx lv st h) : WP cal C rt Q pc lv (.null :: st) h := WP.in hf ⟨fun q => absurd rfl q, fun _ => k⟩
theorem wq_tsw {cal : mC} {C : List (Nat × mE)} {rt : Option FieldType} {Q : Option Value → mH → Prop} {pc nx x y z : Nat} {lv st : List Value} {h : mH} {d lo hi : Int} {offs : Array Int} {a : Int32} {t : Nat} (hf : mfetch C pc = some (.tableswitch d lo hi offs, nx, x, y, z)) (ht : m_sw pc d lo hi offs a = t) (k : WP cal C rt Q t lv st h) : WP cal C rt Q pc lv (.int a :: st) h := WP.in hf (by subst ht; exact k)
theorem wq_lsw {cal : mC} {C : List (Nat × mE)} {rt : Option FieldType} {Q : Option Value → mH → Prop} {pc nx x y z : Nat} {lv st : List Value} {h : mH} {d : Int} {ps : Array (Int × Int)} {a : Int32} {t : Nat} (hf : mfetch C pc = some (.lookupswitch d ps, nx, x, y, z)) (ht : m_lk pc d ps a = t) (k : WP cal C rt Q t lv st h) : WP cal C rt Q pc lv (.int a :: st) h := WP.in hf (by subst ht; exact k)
theorem wq_iret {cal : mC} {C : List (Nat × mE)} {rt : Option FieldType} {Q : Option Value → mH → Prop} {pc nx x y z : Nat} {lv : List Value} {h : mH} {a : Int32} (hf : mfetch C pc = some (.ireturn, nx, x, y, z)) (hr : m_rt rt a) (hq : Q (some (.int a)) h) : WP cal C rt Q pc lv [.int a] h := WP.in hf ⟨rfl, hr, hq⟩
theorem wq_aret {cal : mC} {C : List (Nat × mE)} {rt : Option FieldType} {Q : Option Value → mH → Prop} {pc nx x y z : Nat} {lv : List Value} {h : mH} {a : Nat} (hf : mfetch C pc = some (.areturn, nx, x, y, z)) (hr : m_ra rt) (hq : Q (some (.ref a)) h) : WP cal C rt Q pc lv [.ref a] h := WP.in hf ⟨rfl, hr, hq⟩
theorem wq_aretN {cal : mC} {C : List (Nat × mE)} {rt : Option FieldType} {Q : Option Value → mH → Prop} {pc nx x y z : Nat} {lv : List Value} {h : mH} (hf : mfetch C pc = some (.areturn, nx, x, y, z)) (hr : m_ra rt) (hq : Q (some .null) h) : WP cal C rt Q pc lv [.null] h := WP.in hf ⟨rfl, hr, hq⟩
theorem wq_vret {cal : mC} {C : List (Nat × mE)} {rt : Option FieldType} {Q : Option Value → mH → Prop} {pc nx x y z : Nat} {lv : List Value} {h : mH} (hf : mfetch C pc = some (.return_, nx, x, y, z)) (hr : rt = none) (hq : Q none h) : WP cal C rt Q pc lv [] h := WP.in hf ⟨rfl, hr, hq⟩
theorem wq_stat {cal : mC} {C : List (Nat × mE)} {rt : Option FieldType} {Q : Option Value → mH → Prop} {pc nx x y : Nat} {lv st : List Value} {h : mH} {n : Nat} {a rest : List Value} (hf : mfetch C pc = some (.invokestatic n, nx, x, y, 0)) (hy : Nat.ble y st.length = true) (ha : (st.take y).reverse = a) (hr : st.drop y = rest) (hc : Nat.ble ((rest.map fun v => v.category).sum) 8 = true) (k : cal x a h fun r h' => WP cal C rt Q nx lv (r.toList ++ rest) h') : WP cal C rt Q pc lv st h := WP.in hf (by subst ha; subst hr; exact ⟨Nat.le_of_ble_eq_true hy, Nat.le_of_ble_eq_true hc, _, k, fun _ _ q => q⟩)
theorem wq_virt {cal : mC} {C : List (Nat × mE)} {rt : Option FieldType} {Q : Option Value → mH → Prop} {pc nx x y z : Nat} {lv st : List Value} {h : mH} {n b : Nat} {a rest fs : List Value} (hf : mfetch C pc = some (.invokevirtual n, nx, x, y, z)) (hy : Nat.ble y st.length = true) (ha : (st.take y).reverse = .ref b :: a) (hr : st.drop y = rest) (hc : Nat.ble ((rest.map fun v => v.category).sum) 8 = true) (ho : h[b]? = some (.inr (z, fs))) (k : cal x (.ref b :: a) h fun r h' => WP cal C rt Q nx lv (r.toList ++ rest) h') : WP cal C rt Q pc lv st h := WP.in hf (by subst hr; exact ⟨⟨b, a, ha, by unfold m_gO; rw [ho]⟩, Nat.le_of_ble_eq_true hy, Nat.le_of_ble_eq_true hc, (fun r h' => WP cal C rt Q nx lv (r.toList ++ st.drop y) h'), (by show cal x (st.take y).reverse h _; rw [ha]; exact k), fun _ _ q => q⟩)
theorem wq_max {cal : mC} {C : List (Nat × mE)} {rt : Option FieldType} {Q : Option Value → mH → Prop} {pc nx x y z : Nat} {lv st : List Value} {h : mH} {n : Nat} {a b v : Int32} (hf : mfetch C pc = some (.invokestatic n, nx, x, y, z)) (hz : z = 1) (hc : Nat.ble ((st.map fun v => v.category).sum) 8 = true) (hv : (if a < b then b else a) = v) (k : WP cal C rt Q nx lv (.int v :: st) h) : WP cal C rt Q pc lv (.int b :: .int a :: st) h := WP.in hf (by subst hz; subst hv; exact ⟨Nat.le_of_ble_eq_true hc, k⟩)
theorem wq_min {cal : mC} {C : List (Nat × mE)} {rt : Option FieldType} {Q : Option Value → mH → Prop} {pc nx x y z : Nat} {lv st : List Value} {h : mH} {n : Nat} {a b v : Int32} (hf : mfetch C pc = some (.invokestatic n, nx, x, y, z)) (hz : z = 2) (hc : Nat.ble ((st.map fun v => v.category).sum) 8 = true) (hv : (if b < a then b else a) = v) (k : WP cal C rt Q nx lv (.int v :: st) h) : WP cal C rt Q pc lv (.int b :: .int a :: st) h := WP.in hf (by subst hz; subst hv; exact ⟨Nat.le_of_ble_eq_true hc, k⟩)
end
section
/-! Numbers: all that the objects hold are natural numbers below 2^31. -/
def nA (g : Nat → Nat) : Nat → Int32 := fun j => nI (g j)
def uN' (g : Nat → Nat) (k x : Nat) : Nat → Nat := fun j => if j = k then x else g j
def uG (G : Nat → Nat → Nat) (k : Nat) (g : Nat → Nat) : Nat → Nat → Nat := fun j => if j = k then g else G j
theorem nA_upd (g : Nat → Nat) (k x : Nat) : upd (nA g) k (nI x) = nA (uN' g k x) := by
  funext j
  unfold upd nA uN'
  by_cases h : j = k <;> simp [h]
theorem uN_s {g : Nat → Nat} {k x : Nat} : uN' g k x k = x := by simp [uN']
theorem uN_n {g : Nat → Nat} {k x j : Nat} (h : j ≠ k) : uN' g k x j = g j := by simp [uN', h]
theorem uG_s {G : Nat → Nat → Nat} {k : Nat} {g : Nat → Nat} : uG G k g k = g := by simp [uG]
theorem uG_n {G : Nat → Nat → Nat} {k j : Nat} {g : Nat → Nat} (h : j ≠ k) : uG G k g j = G j := by simp [uG, h]
/-- a without what m has -/
def nd (a m : Nat) : Nat := a ^^^ (a &&& m)
theorem nd_bit (a m i : Nat) : (nd a m).testBit i = (a.testBit i && !m.testBit i) := by
  unfold nd
  rw [Nat.testBit_xor, Nat.testBit_and]
  cases a.testBit i <;> cases m.testBit i <;> rfl
theorem nI_bv (a : Nat) : (nI a).toBitVec = BitVec.ofNat 32 a := rfl
theorem i32_ext {x y : Int32} (h : x.toBitVec = y.toBitVec) : x = y := Int32.toBitVec_inj.mp h
theorem bvN_and (a b : Nat) : BitVec.ofNat 32 a &&& BitVec.ofNat 32 b = BitVec.ofNat 32 (a &&& b) := by
  apply BitVec.eq_of_getLsbD_eq
  intro i hi
  simp [hi, Nat.testBit_and]
theorem bvN_or (a b : Nat) : BitVec.ofNat 32 a ||| BitVec.ofNat 32 b = BitVec.ofNat 32 (a ||| b) := by
  apply BitVec.eq_of_getLsbD_eq
  intro i hi
  simp [hi, Nat.testBit_or]
theorem bvN_xor (a b : Nat) : BitVec.ofNat 32 a ^^^ BitVec.ofNat 32 b = BitVec.ofNat 32 (a ^^^ b) := by
  apply BitVec.eq_of_getLsbD_eq
  intro i hi
  simp [hi, Nat.testBit_xor]
theorem nN_and (a b : Nat) : nI a &&& nI b = nI (a &&& b) := i32_ext (by rw [Int32.toBitVec_and, nI_bv, nI_bv, nI_bv, bvN_and])
theorem nN_or (a b : Nat) : nI a ||| nI b = nI (a ||| b) := i32_ext (by rw [Int32.toBitVec_or, nI_bv, nI_bv, nI_bv, bvN_or])
theorem nN_xor (a b : Nat) : nI a ^^^ nI b = nI (a ^^^ b) := i32_ext (by rw [Int32.toBitVec_xor, nI_bv, nI_bv, nI_bv, bvN_xor])
theorem nN_andn (a m : Nat) : nI a &&& (nI m ^^^ (-1)) = nI (nd a m) := by
  apply i32_ext
  rw [Int32.toBitVec_and, Int32.toBitVec_xor, nI_bv, nI_bv, nI_bv]
  apply BitVec.eq_of_getLsbD_eq
  intro i hi
  have e : (-1 : Int32).toBitVec = BitVec.allOnes 32 := by decide
  rw [e]
  simp only [BitVec.getLsbD_and, BitVec.getLsbD_xor, BitVec.getLsbD_ofNat, BitVec.getLsbD_allOnes, hi, decide_true, Bool.true_and, nd_bit]
  cases a.testBit i <;> cases m.testBit i <;> rfl
theorem nN_shl {a k : Nat} (hk : k < 31) (h : a <<< k < 2 ^ 32) : nI a <<< (nI k &&& 31) = nI (a <<< k) := by
  have e : ((nI k &&& 31).toBitVec.smod 32).toNat = k := by
    have : ∀ n : Fin 31, ((nI n.val &&& 31).toBitVec.smod 32).toNat = n.val := by decide
    exact this ⟨k, hk⟩
  rw [Nat.shiftLeft_eq] at h ⊢
  exact pk_shlN (nI k &&& 31) k e h
theorem nN_shr {a k : Nat} (ha : a < 2 ^ 31) (hk : k < 32) : nI a >>> (nI k &&& 31) = nI (a >>> k) := by
  have e : ((nI k &&& 31).toBitVec.smod 32).toNat = k := by
    have : ∀ n : Fin 32, ((nI n.val &&& 31).toBitVec.smod 32).toNat = n.val := by decide
    exact this ⟨k, hk⟩
  rw [Nat.shiftRight_eq_div_pow]
  exact pk_shrN ha (nI k &&& 31) k e
theorem nN_ushr {a k : Nat} (ha : a < 2 ^ 32) (hk : k < 32) : ((nI a).toUInt32 >>> ((nI k).toUInt32 &&& Int32.toUInt32 31)).toInt32 = nI (a >>> k) := by
  have e : (((nI k).toUInt32 &&& Int32.toUInt32 31).toBitVec % 32).toNat = k := by
    have : ∀ n : Fin 32, (((nI n.val).toUInt32 &&& Int32.toUInt32 31).toBitVec % 32).toNat = n.val := by decide
    exact this ⟨k, hk⟩
  have e2 : (((nI k).toUInt32 &&& Int32.toUInt32 31 &&& Int32.toUInt32 31).toBitVec % 32).toNat = k := by
    have : ∀ n : Fin 32, (((nI n.val).toUInt32 &&& Int32.toUInt32 31 &&& Int32.toUInt32 31).toBitVec % 32).toNat = n.val := by decide
    exact this ⟨k, hk⟩
  rw [Nat.shiftRight_eq_div_pow]
  exact pk_ushrN ha (nI k) k e
theorem bit_and1 (a k : Nat) : (a >>> k) &&& 1 = if a.testBit k then 1 else 0 := by
  rw [Nat.testBit, Nat.and_comm]
  have h1 : 1 &&& (a >>> k) = (a >>> k) % 2 := by rw [Nat.and_comm]; exact Nat.and_one_is_mod _
  rw [h1]
  rcases Nat.mod_two_eq_zero_or_one (a >>> k) with h | h <;> simp [h]
theorem sh_bit (k i : Nat) : (1 <<< k).testBit i = decide (i = k) := by
  rw [Nat.one_shiftLeft, Nat.testBit_two_pow]
  by_cases h : k = i
  · simp [h]
  · simp [h]; exact fun q => h q.symm
theorem lt_of_bits {x n : Nat} (h : ∀ i, n ≤ i → x.testBit i = false) : x < 2 ^ n := Nat.lt_pow_two_of_testBit x h
theorem bit_lt {x n i : Nat} (h : x < 2 ^ n) (hi : n ≤ i) : x.testBit i = false := Nat.testBit_lt_two_pow (Nat.lt_of_lt_of_le h (Nat.pow_le_pow_right (by decide) hi))
theorem nd_lt {a m n : Nat} (h : a < 2 ^ n) : nd a m < 2 ^ n := lt_of_bits fun i hi => by rw [nd_bit, bit_lt h hi]; rfl
theorem or_lt {a m n : Nat} (h : a < 2 ^ n) (h2 : m < 2 ^ n) : a ||| m < 2 ^ n := Nat.or_lt_two_pow h h2
theorem sh_lt {k n : Nat} (h : k < n) : 1 <<< k < 2 ^ n := by rw [Nat.one_shiftLeft]; exact Nat.pow_lt_pow_right (by decide) h
end
section
/-! rows over natural numbers -/
theorem wn_iadd {cal : mC} {C : List (Nat × mE)} {rt : Option FieldType} {Q : Option Value → mH → Prop} {pc nx x y z : Nat} {lv st : List Value} {h : mH} {a b : Nat} (hf : mfetch C pc = some (.iadd, nx, x, y, z))  (k : WP cal C rt Q nx lv (.int (nI (a + b)) :: st) h) : WP cal C rt Q pc lv (.int (nI b) :: .int (nI a) :: st) h := wq_iadd hf (nI_add a b) k
theorem wn_isub {cal : mC} {C : List (Nat × mE)} {rt : Option FieldType} {Q : Option Value → mH → Prop} {pc nx x y z : Nat} {lv st : List Value} {h : mH} {a b : Nat} (hf : mfetch C pc = some (.isub, nx, x, y, z)) (hs : b ≤ a) (k : WP cal C rt Q nx lv (.int (nI (a - b)) :: st) h) : WP cal C rt Q pc lv (.int (nI b) :: .int (nI a) :: st) h := wq_isub hf (pk_sub hs) k
theorem wn_imul {cal : mC} {C : List (Nat × mE)} {rt : Option FieldType} {Q : Option Value → mH → Prop} {pc nx x y z : Nat} {lv st : List Value} {h : mH} {a b : Nat} (hf : mfetch C pc = some (.imul, nx, x, y, z))  (k : WP cal C rt Q nx lv (.int (nI (a * b)) :: st) h) : WP cal C rt Q pc lv (.int (nI b) :: .int (nI a) :: st) h := wq_imul hf (pk_mul a b) k
theorem wn_iand {cal : mC} {C : List (Nat × mE)} {rt : Option FieldType} {Q : Option Value → mH → Prop} {pc nx x y z : Nat} {lv st : List Value} {h : mH} {a b : Nat} (hf : mfetch C pc = some (.iand, nx, x, y, z))  (k : WP cal C rt Q nx lv (.int (nI (a &&& b)) :: st) h) : WP cal C rt Q pc lv (.int (nI b) :: .int (nI a) :: st) h := wq_iand hf (nN_and a b) k
theorem wn_ior {cal : mC} {C : List (Nat × mE)} {rt : Option FieldType} {Q : Option Value → mH → Prop} {pc nx x y z : Nat} {lv st : List Value} {h : mH} {a b : Nat} (hf : mfetch C pc = some (.ior, nx, x, y, z))  (k : WP cal C rt Q nx lv (.int (nI (a ||| b)) :: st) h) : WP cal C rt Q pc lv (.int (nI b) :: .int (nI a) :: st) h := wq_ior hf (nN_or a b) k
theorem wn_ixor {cal : mC} {C : List (Nat × mE)} {rt : Option FieldType} {Q : Option Value → mH → Prop} {pc nx x y z : Nat} {lv st : List Value} {h : mH} {a b : Nat} (hf : mfetch C pc = some (.ixor, nx, x, y, z))  (k : WP cal C rt Q nx lv (.int (nI (a ^^^ b)) :: st) h) : WP cal C rt Q pc lv (.int (nI b) :: .int (nI a) :: st) h := wq_ixor hf (nN_xor a b) k
theorem wn_ishl {cal : mC} {C : List (Nat × mE)} {rt : Option FieldType} {Q : Option Value → mH → Prop} {pc nx x y z : Nat} {lv st : List Value} {h : mH} {a b : Nat} (hf : mfetch C pc = some (.ishl, nx, x, y, z)) (hb : b < 31) (hs : a <<< b < 2 ^ 32) (k : WP cal C rt Q nx lv (.int (nI (a <<< b)) :: st) h) : WP cal C rt Q pc lv (.int (nI b) :: .int (nI a) :: st) h := wq_ishl hf (nN_shl hb hs) k
theorem wn_ishr {cal : mC} {C : List (Nat × mE)} {rt : Option FieldType} {Q : Option Value → mH → Prop} {pc nx x y z : Nat} {lv st : List Value} {h : mH} {a b : Nat} (hf : mfetch C pc = some (.ishr, nx, x, y, z)) (ha : a < 2 ^ 31) (hb : b < 32) (k : WP cal C rt Q nx lv (.int (nI (a >>> b)) :: st) h) : WP cal C rt Q pc lv (.int (nI b) :: .int (nI a) :: st) h := wq_ishr hf (nN_shr ha hb) k
theorem wn_iushr {cal : mC} {C : List (Nat × mE)} {rt : Option FieldType} {Q : Option Value → mH → Prop} {pc nx x y z : Nat} {lv st : List Value} {h : mH} {a b : Nat} (hf : mfetch C pc = some (.iushr, nx, x, y, z)) (ha : a < 2 ^ 32) (hb : b < 32) (k : WP cal C rt Q nx lv (.int (nI (a >>> b)) :: st) h) : WP cal C rt Q pc lv (.int (nI b) :: .int (nI a) :: st) h := wq_iushr hf (nN_ushr ha hb) k
theorem wn_idiv {cal : mC} {C : List (Nat × mE)} {rt : Option FieldType} {Q : Option Value → mH → Prop} {pc nx x y z : Nat} {lv st : List Value} {h : mH} {a b : Nat} (hf : mfetch C pc = some (.idiv, nx, x, y, z)) (h0 : 0 < b) (ha : a < 2 ^ 31) (hb : b < 2 ^ 31) (k : WP cal C rt Q nx lv (.int (nI (a / b)) :: st) h) : WP cal C rt Q pc lv (.int (nI b) :: .int (nI a) :: st) h := wq_idiv hf (nI_ne0 h0 hb) (pk_div ha h0 hb) k
theorem wn_irem {cal : mC} {C : List (Nat × mE)} {rt : Option FieldType} {Q : Option Value → mH → Prop} {pc nx x y z : Nat} {lv st : List Value} {h : mH} {a b : Nat} (hf : mfetch C pc = some (.irem, nx, x, y, z)) (h0 : 0 < b) (ha : a < 2 ^ 31) (hb : b < 2 ^ 31) (k : WP cal C rt Q nx lv (.int (nI (a % b)) :: st) h) : WP cal C rt Q pc lv (.int (nI b) :: .int (nI a) :: st) h := wq_irem hf (nI_ne0 h0 hb) (pk_rem ha h0 hb) k
theorem wn_andn {cal : mC} {C : List (Nat × mE)} {rt : Option FieldType} {Q : Option Value → mH → Prop} {pc nx x y z : Nat} {lv st : List Value} {h : mH} {a m : Nat} (hf : mfetch C pc = some (.iand, nx, x, y, z))  (k : WP cal C rt Q nx lv (.int (nI (nd a m)) :: st) h) : WP cal C rt Q pc lv (.int (nI m ^^^ (-1)) :: .int (nI a) :: st) h := wq_iand hf (nN_andn a m) k
theorem wn_inc {cal : mC} {C : List (Nat × mE)} {rt : Option FieldType} {Q : Option Value → mH → Prop} {pc nx x y z : Nat} {lv st : List Value} {h : mH} {a j : Nat} {lv' : List Value} (hf : mfetch C pc = some (.iinc j 1, nx, x, y, z)) (hl : lv[j]? = some (.int (nI a))) (hs : lv.set j (.int (nI (a + 1))) = lv') (k : WP cal C rt Q nx lv' st h) : WP cal C rt Q pc lv st h := wq_iinc hf hl (v := nI (a + 1)) (nI_1 a) hs k
theorem wn_dec {cal : mC} {C : List (Nat × mE)} {rt : Option FieldType} {Q : Option Value → mH → Prop} {pc nx x y z : Nat} {lv st : List Value} {h : mH} {a j : Nat} {lv' : List Value} (hf : mfetch C pc = some (.iinc j (-1), nx, x, y, z)) (hl : lv[j]? = some (.int (nI (a + 1)))) (hs : lv.set j (.int (nI a)) = lv') (k : WP cal C rt Q nx lv' st h) : WP cal C rt Q pc lv st h := wq_iinc hf hl (v := nI a) (pk_m1 a) hs k
theorem max_nI {a b : Nat} (ha : a < 2 ^ 31) (hb : b < 2 ^ 31) : (if nI a < nI b then nI b else nI a) = nI (max a b) := by
  by_cases q : a < b
  · rw [if_pos ((nI_ltI ha hb).mpr q), Nat.max_eq_right (Nat.le_of_lt q)]
  · rw [if_neg (fun e => q ((nI_ltI ha hb).mp e)), Nat.max_eq_left (Nat.le_of_not_lt q)]
theorem min_nI {a b : Nat} (ha : a < 2 ^ 31) (hb : b < 2 ^ 31) : (if nI b < nI a then nI b else nI a) = nI (min a b) := by
  by_cases q : b < a
  · rw [if_pos ((nI_ltI hb ha).mpr q), Nat.min_eq_right (Nat.le_of_lt q)]
  · rw [if_neg (fun e => q ((nI_ltI hb ha).mp e)), Nat.min_eq_left (Nat.le_of_not_lt q)]
theorem nI_0' {a : Nat} (ha : a < 2 ^ 31) : nI a = 0 ↔ a = 0 := nI_eq (b := 0) ha (by decide)
theorem wn_if_eq {cal : mC} {C : List (Nat × mE)} {rt : Option FieldType} {Q : Option Value → mH → Prop} {pc nx x y z : Nat} {lv st : List Value} {h : mH} {a : Nat} {n : Int} (hf : mfetch C pc = some (.ifCond .eq n, nx, x, y, z)) (ha : a < 2 ^ 31) (kt : a = 0 → WP cal C rt Q x lv st h) (kf : a ≠ 0 → WP cal C rt Q nx lv st h) : WP cal C rt Q pc lv (.int (nI a) :: st) h := wq_if_eq hf (fun q => kt ((nI_0' ha).mp q)) (fun q => kf (fun e => q ((nI_0' ha).mpr e)))
theorem wn_if_ne {cal : mC} {C : List (Nat × mE)} {rt : Option FieldType} {Q : Option Value → mH → Prop} {pc nx x y z : Nat} {lv st : List Value} {h : mH} {a : Nat} {n : Int} (hf : mfetch C pc = some (.ifCond .ne n, nx, x, y, z)) (ha : a < 2 ^ 31) (kt : a ≠ 0 → WP cal C rt Q x lv st h) (kf : a = 0 → WP cal C rt Q nx lv st h) : WP cal C rt Q pc lv (.int (nI a) :: st) h := wq_if_ne hf (fun q => kt (fun e => q ((nI_0' ha).mpr e))) (fun q => kf ((nI_0' ha).mp q))
theorem wn_if_lt {cal : mC} {C : List (Nat × mE)} {rt : Option FieldType} {Q : Option Value → mH → Prop} {pc nx x y z : Nat} {lv st : List Value} {h : mH} {a : Nat} {n : Int} (hf : mfetch C pc = some (.ifCond .lt n, nx, x, y, z)) (ha : a < 2 ^ 31) (k : WP cal C rt Q nx lv st h) : WP cal C rt Q pc lv (.int (nI a) :: st) h := wq_if_lt hf (fun q => absurd q (nI_pos ha)) (fun _ => k)
theorem wn_if_ge {cal : mC} {C : List (Nat × mE)} {rt : Option FieldType} {Q : Option Value → mH → Prop} {pc nx x y z : Nat} {lv st : List Value} {h : mH} {a : Nat} {n : Int} (hf : mfetch C pc = some (.ifCond .ge n, nx, x, y, z)) (ha : a < 2 ^ 31) (k : WP cal C rt Q x lv st h) : WP cal C rt Q pc lv (.int (nI a) :: st) h := wq_if_ge hf (fun _ => k) (fun q => absurd (nI_pos' ha) q)
theorem wn_if_gt {cal : mC} {C : List (Nat × mE)} {rt : Option FieldType} {Q : Option Value → mH → Prop} {pc nx x y z : Nat} {lv st : List Value} {h : mH} {a : Nat} {n : Int} (hf : mfetch C pc = some (.ifCond .gt n, nx, x, y, z)) (ha : a < 2 ^ 31) (kt : 0 < a → WP cal C rt Q x lv st h) (kf : a = 0 → WP cal C rt Q nx lv st h) : WP cal C rt Q pc lv (.int (nI a) :: st) h := wq_if_gt hf (fun q => kt ((nI_ltI (a := 0) (by decide) ha).mp q)) (fun q => kf (Nat.eq_zero_of_not_pos (fun e => q ((nI_ltI (a := 0) (by decide) ha).mpr e))))
theorem wn_if_le {cal : mC} {C : List (Nat × mE)} {rt : Option FieldType} {Q : Option Value → mH → Prop} {pc nx x y z : Nat} {lv st : List Value} {h : mH} {a : Nat} {n : Int} (hf : mfetch C pc = some (.ifCond .le n, nx, x, y, z)) (ha : a < 2 ^ 31) (kt : a = 0 → WP cal C rt Q x lv st h) (kf : 0 < a → WP cal C rt Q nx lv st h) : WP cal C rt Q pc lv (.int (nI a) :: st) h := wq_if_le hf (fun q => kt (Nat.le_zero.mp ((nI_leI (b := 0) ha (by decide)).mp q))) (fun q => kf (Nat.pos_of_ne_zero (fun e => q ((nI_leI (b := 0) ha (by decide)).mpr (Nat.le_zero.mpr e)))))
theorem wn_ic_eq {cal : mC} {C : List (Nat × mE)} {rt : Option FieldType} {Q : Option Value → mH → Prop} {pc nx x y z : Nat} {lv st : List Value} {h : mH} {a b : Nat} {n : Int} (hf : mfetch C pc = some (.if_icmp .eq n, nx, x, y, z)) (ha : a < 2 ^ 31) (hb : b < 2 ^ 31) (kt : a = b → WP cal C rt Q x lv st h) (kf : a ≠ b → WP cal C rt Q nx lv st h) : WP cal C rt Q pc lv (.int (nI b) :: .int (nI a) :: st) h := wq_ic_eq hf (fun q => kt ((nI_eq ha hb).mp q)) (fun q => kf ((fun e => q ((nI_eq ha hb).mpr e))))
theorem wn_ic_lt {cal : mC} {C : List (Nat × mE)} {rt : Option FieldType} {Q : Option Value → mH → Prop} {pc nx x y z : Nat} {lv st : List Value} {h : mH} {a b : Nat} {n : Int} (hf : mfetch C pc = some (.if_icmp .lt n, nx, x, y, z)) (ha : a < 2 ^ 31) (hb : b < 2 ^ 31) (kt : a < b → WP cal C rt Q x lv st h) (kf : b ≤ a → WP cal C rt Q nx lv st h) : WP cal C rt Q pc lv (.int (nI b) :: .int (nI a) :: st) h := wq_ic_lt hf (fun q => kt ((nI_ltI ha hb).mp q)) (fun q => kf (Nat.le_of_not_lt (fun e => q ((nI_ltI ha hb).mpr e))))
theorem wn_ic_le {cal : mC} {C : List (Nat × mE)} {rt : Option FieldType} {Q : Option Value → mH → Prop} {pc nx x y z : Nat} {lv st : List Value} {h : mH} {a b : Nat} {n : Int} (hf : mfetch C pc = some (.if_icmp .le n, nx, x, y, z)) (ha : a < 2 ^ 31) (hb : b < 2 ^ 31) (kt : a ≤ b → WP cal C rt Q x lv st h) (kf : b < a → WP cal C rt Q nx lv st h) : WP cal C rt Q pc lv (.int (nI b) :: .int (nI a) :: st) h := wq_ic_le hf (fun q => kt ((nI_leI ha hb).mp q)) (fun q => kf (Nat.lt_of_not_le (fun e => q ((nI_leI ha hb).mpr e))))
theorem wn_ic_ge {cal : mC} {C : List (Nat × mE)} {rt : Option FieldType} {Q : Option Value → mH → Prop} {pc nx x y z : Nat} {lv st : List Value} {h : mH} {a b : Nat} {n : Int} (hf : mfetch C pc = some (.if_icmp .ge n, nx, x, y, z)) (ha : a < 2 ^ 31) (hb : b < 2 ^ 31) (kt : b ≤ a → WP cal C rt Q x lv st h) (kf : a < b → WP cal C rt Q nx lv st h) : WP cal C rt Q pc lv (.int (nI b) :: .int (nI a) :: st) h := wq_ic_ge hf (fun q => kt ((nI_leI hb ha).mp q)) (fun q => kf (Nat.lt_of_not_le (fun e => q ((nI_leI hb ha).mpr e))))
theorem wn_ic_gt {cal : mC} {C : List (Nat × mE)} {rt : Option FieldType} {Q : Option Value → mH → Prop} {pc nx x y z : Nat} {lv st : List Value} {h : mH} {a b : Nat} {n : Int} (hf : mfetch C pc = some (.if_icmp .gt n, nx, x, y, z)) (ha : a < 2 ^ 31) (hb : b < 2 ^ 31) (kt : b < a → WP cal C rt Q x lv st h) (kf : a ≤ b → WP cal C rt Q nx lv st h) : WP cal C rt Q pc lv (.int (nI b) :: .int (nI a) :: st) h := wq_ic_gt hf (fun q => kt ((nI_ltI hb ha).mp q)) (fun q => kf (Nat.le_of_not_lt (fun e => q ((nI_ltI hb ha).mpr e))))
theorem wn_ic_ne {cal : mC} {C : List (Nat × mE)} {rt : Option FieldType} {Q : Option Value → mH → Prop} {pc nx x y z : Nat} {lv st : List Value} {h : mH} {a b : Nat} {n : Int} (hf : mfetch C pc = some (.if_icmp .ne n, nx, x, y, z)) (ha : a < 2 ^ 31) (hb : b < 2 ^ 31) (kt : a ≠ b → WP cal C rt Q x lv st h) (kf : a = b → WP cal C rt Q nx lv st h) : WP cal C rt Q pc lv (.int (nI b) :: .int (nI a) :: st) h := wq_ic_ne hf (fun q => kt (fun e => q ((nI_eq ha hb).mpr e))) (fun q => kf ((nI_eq ha hb).mp q))
theorem wn_iaload {cal : mC} {C : List (Nat × mE)} {rt : Option FieldType} {Q : Option Value → mH → Prop} {pc nx x y z : Nat} {lv st : List Value} {h : mH} {n a i : Nat} {g : Nat → Nat} (hf : mfetch C pc = some (.iaload, nx, x, y, z)) (ho : h[a]? = some (.inl (0, n, .inl (nA g)))) (hi : i < n) (hn : n < 2 ^ 31) (k : WP cal C rt Q nx lv (.int (nI (g i)) :: st) h) : WP cal C rt Q pc lv (.int (nI i) :: .ref a :: st) h := wq_iaload hf ho (vp_in_nI hi hn) (by rw [nI_clamp (by omega)]; rfl) k
theorem wn_baload {cal : mC} {C : List (Nat × mE)} {rt : Option FieldType} {Q : Option Value → mH → Prop} {pc nx x y z : Nat} {lv st : List Value} {h : mH} {n a i : Nat} {g : Nat → Nat} (hf : mfetch C pc = some (.baload, nx, x, y, z)) (ho : h[a]? = some (.inl (1, n, .inl (nA g)))) (hi : i < n) (hn : n < 2 ^ 31) (k : WP cal C rt Q nx lv (.int (nI (g i)) :: st) h) : WP cal C rt Q pc lv (.int (nI i) :: .ref a :: st) h := wq_baload hf ho (vp_in_nI hi hn) (by rw [nI_clamp (by omega)]; rfl) k
theorem wn_iastore {cal : mC} {C : List (Nat × mE)} {rt : Option FieldType} {Q : Option Value → mH → Prop} {pc nx x y z : Nat} {lv st : List Value} {h : mH} {n a i v : Nat} {g : Nat → Nat} {h' : mH} (hf : mfetch C pc = some (.iastore, nx, x, y, z)) (ho : h[a]? = some (.inl (0, n, .inl (nA g)))) (hi : i < n) (hn : n < 2 ^ 31) (hs : h.set a (.inl (0, n, .inl (nA (uN' g i v)))) = h') (k : WP cal C rt Q nx lv st h') : WP cal C rt Q pc lv (.int (nI v) :: .int (nI i) :: .ref a :: st) h := wq_iastore hf ho (vp_in_nI hi hn) (by rw [nI_clamp (by omega), nA_upd]; exact hs) k
theorem vp_byte : ∀ v : Fin 128, vp_nar .byte (nI v.val) = nI v.val := by decide
theorem i2b_n : ∀ v : Fin 128, (nI v.val).toInt8.toInt32 = nI v.val := by decide
theorem wn_bastore {cal : mC} {C : List (Nat × mE)} {rt : Option FieldType} {Q : Option Value → mH → Prop} {pc nx x y z : Nat} {lv st : List Value} {h : mH} {n a i v : Nat} {g : Nat → Nat} {h' : mH} (hf : mfetch C pc = some (.bastore, nx, x, y, z)) (ho : h[a]? = some (.inl (1, n, .inl (nA g)))) (hi : i < n) (hn : n < 2 ^ 31) (hv : v < 128) (hs : h.set a (.inl (1, n, .inl (nA (uN' g i v)))) = h') (k : WP cal C rt Q nx lv st h') : WP cal C rt Q pc lv (.int (nI v) :: .int (nI i) :: .ref a :: st) h := wq_bastore hf ho (vp_in_nI hi hn) (by rw [nI_clamp (by omega), show vp_nar .byte (nI v) = nI v from vp_byte ⟨v, hv⟩, nA_upd]; exact hs) k
theorem wn_i2b {cal : mC} {C : List (Nat × mE)} {rt : Option FieldType} {Q : Option Value → mH → Prop} {pc nx x y z : Nat} {lv st : List Value} {h : mH} {a : Nat} (hf : mfetch C pc = some (.i2b, nx, x, y, z)) (ha : a < 128) (k : WP cal C rt Q nx lv (.int (nI a) :: st) h) : WP cal C rt Q pc lv (.int (nI a) :: st) h := wq_i2b hf (i2b_n ⟨a, ha⟩) k
theorem wn_max {cal : mC} {C : List (Nat × mE)} {rt : Option FieldType} {Q : Option Value → mH → Prop} {pc nx x y z : Nat} {lv st : List Value} {h : mH} {n a b : Nat} (hf : mfetch C pc = some (.invokestatic n, nx, x, y, z)) (hz : z = 1) (ha : a < 2 ^ 31) (hb : b < 2 ^ 31) (hc : Nat.ble ((st.map fun v => v.category).sum) 8 = true) (k : WP cal C rt Q nx lv (.int (nI (max a b)) :: st) h) : WP cal C rt Q pc lv (.int (nI b) :: .int (nI a) :: st) h := wq_max hf hz hc (v := nI (max a b)) (max_nI ha hb) k
theorem wn_min {cal : mC} {C : List (Nat × mE)} {rt : Option FieldType} {Q : Option Value → mH → Prop} {pc nx x y z : Nat} {lv st : List Value} {h : mH} {n a b : Nat} (hf : mfetch C pc = some (.invokestatic n, nx, x, y, z)) (hz : z = 2) (ha : a < 2 ^ 31) (hb : b < 2 ^ 31) (hc : Nat.ble ((st.map fun v => v.category).sum) 8 = true) (k : WP cal C rt Q nx lv (.int (nI (min a b)) :: st) h) : WP cal C rt Q pc lv (.int (nI b) :: .int (nI a) :: st) h := wq_min hf hz hc (v := nI (min a b)) (min_nI ha hb) k
/-- a window in a heap -/
theorem ap_get {pre r : mH} {b k : Nat} (hb : pre.length = b) : (pre ++ r)[b + k]? = r[k]? := by
  rw [List.getElem?_append_right (by omega)]
  congr 1
  omega
theorem ap_set {pre r : mH} {b k : Nat} {e : va_E} (hb : pre.length = b) : (pre ++ r).set (b + k) e = pre ++ r.set k e := by
  rw [List.set_append_right _ _ (by omega)]
  have e : b + k - pre.length = k := by omega
  rw [e]
theorem ap_get0 {pre r : mH} {b : Nat} (hb : pre.length = b) : (pre ++ r)[b]? = r[0]? := ap_get (k := 0) hb
theorem ap_set0 {pre r : mH} {b : Nat} {e : va_E} (hb : pre.length = b) : (pre ++ r).set b e = pre ++ r.set 0 e := ap_set (k := 0) hb
end
section
/-! leaves: static helpers of the class and of the reference, members of the JDK -/
theorem fa_nlt {a b : Int32} (h : ¬ a < b) : b ≤ a := Int32.not_lt.mp h
theorem fa_nle {a b : Int32} (h : ¬ a ≤ b) : b < a := Int32.not_le.mp h
theorem fa_lt {a b : Int32} (h : a < b) : ¬ b ≤ a := Int32.not_le.mpr h
theorem bit_1 {a k : Nat} (h : (a >>> k) &&& 1 = 1) : a.testBit k = true := by
  rw [bit_and1] at h
  cases q : a.testBit k
  · rw [q] at h; cases h
  · rfl
theorem bit_0 {a k : Nat} (h : (a >>> k) &&& 1 ≠ 1) : a.testBit k = false := by
  rw [bit_and1] at h
  cases q : a.testBit k
  · rfl
  · rw [q] at h; exact absurd rfl h
theorem bit_ne {a k : Nat} (h : (a >>> k) &&& 1 ≠ 0) : (a >>> k) &&& 1 = 1 := by
  rw [bit_and1] at h ⊢
  split
  · rfl
  · rename_i q; rw [if_neg q] at h; exact absurd rfl h
theorem r_M_in {d : Nat} {h : mH} {Q : Option Value → mH → Prop} {v a b : Int32} (kt : a ≤ v ∧ v ≤ b → Q (some (.int (nI 1))) h) (kf : ¬ (a ≤ v ∧ v ≤ b) → Q (some (.int (nI 0))) h) : Rn mprog (d + 1) n_M_in [.int v, .int a, .int b] h Q := by
  refine Rn.in rfl rfl rfl ?_
  show WP _ _ _ _ 0 [.int v, .int a, .int b] [] h
  refine wq_iload_n rfl rfl ?_
  refine wq_iload_n rfl rfl ?_
  refine wq_ic_lt rfl (fun c2 => ?_) (fun c2 => ?_)
  · skip
    refine wq_iconst (v := nI 0) rfl (by decide) ?_
    refine wq_iret rfl (by first | exact Or.inl rfl | exact Or.inr rfl) ?_
    exact kf (fun q => by first | exact absurd q.1 (fa_lt c2) | exact absurd q.2 (fa_lt c7))
  · skip
    refine wq_iload_n rfl rfl ?_
    refine wq_iload_n rfl rfl ?_
    refine wq_ic_gt rfl (fun c7 => ?_) (fun c7 => ?_)
    · skip
      refine wq_iconst (v := nI 0) rfl (by decide) ?_
      refine wq_iret rfl (by first | exact Or.inl rfl | exact Or.inr rfl) ?_
      exact kf (fun q => by first | exact absurd q.1 (fa_lt c2) | exact absurd q.2 (fa_lt c7))
    · skip
      refine wq_iconst (v := nI 1) rfl (by decide) ?_
      refine wq_goto rfl ?_
      refine wq_iret rfl (by first | exact Or.inl rfl | exact Or.inr rfl) ?_
      exact kt ⟨fa_nlt c2, fa_nlt c7⟩
theorem r_Z_isPoint {d : Nat} {h : mH} {Q : Option Value → mH → Prop} {v : Int32} (kt : 0 ≤ v ∧ v < 9 → Q (some (.int (nI 1))) h) (kf : ¬ (0 ≤ v ∧ v < 9) → Q (some (.int (nI 0))) h) : Rn mprog (d + 1) n_Z_isPoint [.int v] h Q := by
  refine Rn.in rfl rfl rfl ?_
  show WP _ _ _ _ 0 [.int v] [] h
  refine wq_iload_n rfl rfl ?_
  refine wq_if_lt rfl (fun c1 => ?_) (fun c1 => ?_)
  · skip
    refine wq_iconst (v := nI 0) rfl (by decide) ?_
    refine wq_iret rfl (by first | exact Or.inl rfl | exact Or.inr rfl) ?_
    exact kf (fun q => by first | exact absurd q.1 (fa_lt c1) | exact absurd c7 (fa_lt q.2))
  · skip
    refine wq_iload_n rfl rfl ?_
    refine wq_bipush (v := nI 9) rfl (by decide) ?_
    refine wq_ic_ge rfl (fun c7 => ?_) (fun c7 => ?_)
    · skip
      refine wq_iconst (v := nI 0) rfl (by decide) ?_
      refine wq_iret rfl (by first | exact Or.inl rfl | exact Or.inr rfl) ?_
      exact kf (fun q => by first | exact absurd q.1 (fa_lt c1) | exact absurd c7 (fa_lt q.2))
    · skip
      refine wq_iconst (v := nI 1) rfl (by decide) ?_
      refine wq_goto rfl ?_
      refine wq_iret rfl (by first | exact Or.inl rfl | exact Or.inr rfl) ?_
      exact kt ⟨fa_nlt c1, fa_nle c7⟩
theorem r_Z_isKind {d : Nat} {h : mH} {Q : Option Value → mH → Prop} {v : Int32} (kt : 0 ≤ v ∧ v ≤ 3 → Q (some (.int (nI 1))) h) (kf : ¬ (0 ≤ v ∧ v ≤ 3) → Q (some (.int (nI 0))) h) : Rn mprog (d + 1) n_Z_isKind [.int v] h Q := by
  refine Rn.in rfl rfl rfl ?_
  show WP _ _ _ _ 0 [.int v] [] h
  refine wq_iload_n rfl rfl ?_
  refine wq_if_lt rfl (fun c1 => ?_) (fun c1 => ?_)
  · skip
    refine wq_iconst (v := nI 0) rfl (by decide) ?_
    refine wq_iret rfl (by first | exact Or.inl rfl | exact Or.inr rfl) ?_
    exact kf (fun q => by first | exact absurd q.1 (fa_lt c1) | exact absurd q.2 (fa_lt c6))
  · skip
    refine wq_iload_n rfl rfl ?_
    refine wq_iconst (v := nI 3) rfl (by decide) ?_
    refine wq_ic_gt rfl (fun c6 => ?_) (fun c6 => ?_)
    · skip
      refine wq_iconst (v := nI 0) rfl (by decide) ?_
      refine wq_iret rfl (by first | exact Or.inl rfl | exact Or.inr rfl) ?_
      exact kf (fun q => by first | exact absurd q.1 (fa_lt c1) | exact absurd q.2 (fa_lt c6))
    · skip
      refine wq_iconst (v := nI 1) rfl (by decide) ?_
      refine wq_goto rfl ?_
      refine wq_iret rfl (by first | exact Or.inl rfl | exact Or.inr rfl) ?_
      exact kt ⟨fa_nlt c1, fa_nlt c6⟩
theorem r_Z_isOfEdge {d : Nat} {h : mH} {Q : Option Value → mH → Prop} {v : Int32} (kt : v = 2 ∨ v = 3 → Q (some (.int (nI 1))) h) (kf : ¬ (v = 2 ∨ v = 3) → Q (some (.int (nI 0))) h) : Rn mprog (d + 1) n_Z_isOfEdge [.int v] h Q := by
  refine Rn.in rfl rfl rfl ?_
  show WP _ _ _ _ 0 [.int v] [] h
  refine wq_iload_n rfl rfl ?_
  refine wq_iconst (v := nI 2) rfl (by decide) ?_
  refine wq_ic_eq rfl (fun c2 => ?_) (fun c2 => ?_)
  · skip
    refine wq_iconst (v := nI 1) rfl (by decide) ?_
    refine wq_goto rfl ?_
    refine wq_iret rfl (by first | exact Or.inl rfl | exact Or.inr rfl) ?_
    first | exact kt (Or.inl c2) | exact kt (Or.inr c7)
  · skip
    refine wq_iload_n rfl rfl ?_
    refine wq_iconst (v := nI 3) rfl (by decide) ?_
    refine wq_ic_ne rfl (fun c7 => ?_) (fun c7 => ?_)
    · skip
      refine wq_iconst (v := nI 0) rfl (by decide) ?_
      refine wq_iret rfl (by first | exact Or.inl rfl | exact Or.inr rfl) ?_
      exact kf (fun q => q.elim c2 c7)
    · skip
      refine wq_iconst (v := nI 1) rfl (by decide) ?_
      refine wq_goto rfl ?_
      refine wq_iret rfl (by first | exact Or.inl rfl | exact Or.inr rfl) ?_
      first | exact kt (Or.inl c2) | exact kt (Or.inr c7)
theorem r_M_has {d : Nat} {h : mH} {Q : Option Value → mH → Prop} {a k : Nat} (ha : a < 2 ^ 31) (hk : k < 32) (kt : a.testBit k = true → Q (some (.int (nI 1))) h) (kf : a.testBit k = false → Q (some (.int (nI 0))) h) : Rn mprog (d + 1) n_M_has [.int (nI a), .int (nI k)] h Q := by
  refine Rn.in rfl rfl rfl ?_
  show WP _ _ _ _ 0 [.int (nI a), .int (nI k)] [] h
  refine wq_iload_n rfl rfl ?_
  refine wq_iload_n rfl rfl ?_
  refine wn_ishr rfl (by omega) (by omega) ?_
  refine wq_iconst (v := nI 1) rfl (by decide) ?_
  refine wn_iand rfl ?_
  refine wq_iconst (v := nI 1) rfl (by decide) ?_
  have hb1 : a >>> k &&& 1 ≤ 1 := Nat.and_le_right
  refine wn_ic_ne rfl (by omega) (by omega) (fun c6 => ?_) (fun c6 => ?_)
  · skip
    refine wq_iconst (v := nI 0) rfl (by decide) ?_
    refine wq_iret rfl (by first | exact Or.inl rfl | exact Or.inr rfl) ?_
    exact kf (bit_0 c6)
  · skip
    refine wq_iconst (v := nI 1) rfl (by decide) ?_
    refine wq_goto rfl ?_
    refine wq_iret rfl (by first | exact Or.inl rfl | exact Or.inr rfl) ?_
    exact kt (bit_1 c6)
theorem r_Z_isIn {d : Nat} {h : mH} {Q : Option Value → mH → Prop} {a k : Nat} (ha : a < 2 ^ 31) (hk : k < 32) (kt : a.testBit k = true → Q (some (.int (nI 1))) h) (kf : a.testBit k = false → Q (some (.int (nI 0))) h) : Rn mprog (d + 1) n_Z_isIn [.int (nI a), .int (nI k)] h Q := by
  refine Rn.in rfl rfl rfl ?_
  show WP _ _ _ _ 0 [.int (nI a), .int (nI k)] [] h
  refine wq_iload_n rfl rfl ?_
  refine wq_iload_n rfl rfl ?_
  refine wn_ishr rfl (by omega) (by omega) ?_
  refine wq_iconst (v := nI 1) rfl (by decide) ?_
  refine wn_iand rfl ?_
  have hb1 : a >>> k &&& 1 ≤ 1 := Nat.and_le_right
  refine wn_if_eq rfl (by omega) (fun c5 => ?_) (fun c5 => ?_)
  · skip
    refine wq_iconst (v := nI 0) rfl (by decide) ?_
    refine wq_iret rfl (by first | exact Or.inl rfl | exact Or.inr rfl) ?_
    exact kf (bit_0 (by rw [c5]; decide))
  · skip
    refine wq_iconst (v := nI 1) rfl (by decide) ?_
    refine wq_goto rfl ?_
    refine wq_iret rfl (by first | exact Or.inl rfl | exact Or.inr rfl) ?_
    exact kt (bit_1 (bit_ne c5))
theorem r_Z_kindOf {d : Nat} {h : mH} {Q : Option Value → mH → Prop} {a : Nat} (ha : a < 2 ^ 31) (hQ : Q (some (.int (nI (a >>> 8)))) h) : Rn mprog (d + 1) n_Z_kindOf [.int (nI a)] h Q := by
  refine Rn.in rfl rfl rfl ?_
  show WP _ _ _ _ 0 [.int (nI a)] [] h
  refine wq_iload_n rfl rfl ?_
  refine wq_bipush (v := nI 8) rfl (by decide) ?_
  refine wn_ishr rfl (by omega) (by omega) ?_
  refine wq_iret rfl trivial ?_
  exact hQ
theorem r_Z_lowOf {d : Nat} {h : mH} {Q : Option Value → mH → Prop} {a : Nat} (ha : a < 2 ^ 31) (hQ : Q (some (.int (nI ((a >>> 4) &&& 15)))) h) : Rn mprog (d + 1) n_Z_lowOf [.int (nI a)] h Q := by
  refine Rn.in rfl rfl rfl ?_
  show WP _ _ _ _ 0 [.int (nI a)] [] h
  refine wq_iload_n rfl rfl ?_
  refine wq_iconst (v := nI 4) rfl (by decide) ?_
  refine wn_ishr rfl (by omega) (by omega) ?_
  refine wq_bipush (v := nI 15) rfl (by decide) ?_
  refine wn_iand rfl ?_
  refine wq_iret rfl trivial ?_
  exact hQ
theorem r_Z_highOf {d : Nat} {h : mH} {Q : Option Value → mH → Prop} {a : Nat} (hQ : Q (some (.int (nI (a &&& 15)))) h) : Rn mprog (d + 1) n_Z_highOf [.int (nI a)] h Q := by
  refine Rn.in rfl rfl rfl ?_
  show WP _ _ _ _ 0 [.int (nI a)] [] h
  refine wq_iload_n rfl rfl ?_
  refine wq_bipush (v := nI 15) rfl (by decide) ?_
  refine wn_iand rfl ?_
  refine wq_iret rfl trivial ?_
  exact hQ
theorem r_Z_kindOf_no {d : Nat} {h : mH} {Q : Option Value → mH → Prop} (hQ : Q (some (.int (-1))) h) : Rn mprog (d + 1) n_Z_kindOf [.int (-1)] h Q := by
  refine Rn.in rfl rfl rfl ?_
  show WP _ _ _ _ 0 [.int ((-1))] [] h
  refine wq_iload_n rfl rfl ?_
  refine wq_bipush (v := nI 8) rfl (by decide) ?_
  refine wq_ishr (v := ((-1)) >>> (nI 8 &&& 31)) rfl rfl ?_
  refine wq_iret rfl trivial ?_
  exact hQ
theorem r_Z_lowOf_no {d : Nat} {h : mH} {Q : Option Value → mH → Prop} (hQ : Q (some (.int (nI 15))) h) : Rn mprog (d + 1) n_Z_lowOf [.int (-1)] h Q := by
  refine Rn.in rfl rfl rfl ?_
  show WP _ _ _ _ 0 [.int ((-1))] [] h
  refine wq_iload_n rfl rfl ?_
  refine wq_iconst (v := nI 4) rfl (by decide) ?_
  refine wq_ishr (v := ((-1)) >>> (nI 4 &&& 31)) rfl rfl ?_
  refine wq_bipush (v := nI 15) rfl (by decide) ?_
  refine wq_iand (v := (((-1)) >>> (nI 4 &&& 31)) &&& (nI 15)) rfl rfl ?_
  refine wq_iret rfl trivial ?_
  exact hQ
theorem r_Z_highOf_no {d : Nat} {h : mH} {Q : Option Value → mH → Prop} (hQ : Q (some (.int (nI 15))) h) : Rn mprog (d + 1) n_Z_highOf [.int (-1)] h Q := by
  refine Rn.in rfl rfl rfl ?_
  show WP _ _ _ _ 0 [.int ((-1))] [] h
  refine wq_iload_n rfl rfl ?_
  refine wq_bipush (v := nI 15) rfl (by decide) ?_
  refine wq_iand (v := ((-1)) &&& (nI 15)) rfl rfl ?_
  refine wq_iret rfl trivial ?_
  exact hQ
theorem r_Z_itemLength {d : Nat} {h : mH} {Q : Option Value → mH → Prop} {v : Int32} (kt : v = 2 ∨ v = 3 → Q (some (.int (nI 4))) h) (kf : ¬ (v = 2 ∨ v = 3) → Q (some (.int (nI 3))) h) : Rn mprog (d + 2) n_Z_itemLength [.int v] h Q := by
  refine Rn.in rfl rfl rfl ?_
  show WP _ _ _ _ 0 [.int v] [] h
  refine wq_iload_n rfl rfl ?_
  refine wq_stat (a := [.int v]) (rest := []) rfl rfl rfl rfl rfl ?_
  refine r_Z_isOfEdge (fun c1 => ?_) (fun c1 => ?_)
  · skip
    show WP _ _ _ _ 4 [.int v] [.int (nI 1)] h
    refine wq_if_eq rfl (fun c => absurd c (by decide)) (fun _ => ?_)
    refine wq_iconst (v := nI 4) rfl (by decide) ?_
    refine wq_goto rfl ?_
    refine wq_iret rfl trivial ?_
    exact kt c1
  · skip
    show WP _ _ _ _ 4 [.int v] [.int (nI 0)] h
    refine wq_if_eq rfl (fun _ => ?_) (fun c => absurd c (by decide))
    refine wq_iconst (v := nI 3) rfl (by decide) ?_
    refine wq_iret rfl trivial ?_
    exact kf c1
theorem r_M_kindOf {d : Nat} {h : mH} {Q : Option Value → mH → Prop} {a : Nat} (ha : a < 2 ^ 31) (hQ : Q (some (.int (nI (a / 100)))) h) : Rn mprog (d + 1) n_M_kindOf [.int (nI a)] h Q := by
  refine Rn.in rfl rfl rfl ?_
  show WP _ _ _ _ 0 [.int (nI a)] [] h
  refine wq_iload_n rfl rfl ?_
  refine wq_bipush (v := nI 100) rfl (by decide) ?_
  refine wn_idiv rfl (by decide) (by omega) (by decide) ?_
  refine wq_iret rfl trivial ?_
  exact hQ
theorem r_M_oneOf {d : Nat} {h : mH} {Q : Option Value → mH → Prop} {a : Nat} (ha : a < 2 ^ 31) (hQ : Q (some (.int (nI (a / 10 % 10)))) h) : Rn mprog (d + 1) n_M_oneOf [.int (nI a)] h Q := by
  refine Rn.in rfl rfl rfl ?_
  show WP _ _ _ _ 0 [.int (nI a)] [] h
  refine wq_iload_n rfl rfl ?_
  refine wq_bipush (v := nI 10) rfl (by decide) ?_
  refine wn_idiv rfl (by decide) (by omega) (by decide) ?_
  refine wq_bipush (v := nI 10) rfl (by decide) ?_
  refine wn_irem rfl (by decide) (by omega) (by decide) ?_
  refine wq_iret rfl trivial ?_
  exact hQ
theorem r_M_otherOf {d : Nat} {h : mH} {Q : Option Value → mH → Prop} {a : Nat} (ha : a < 2 ^ 31) (hQ : Q (some (.int (nI (a % 10)))) h) : Rn mprog (d + 1) n_M_otherOf [.int (nI a)] h Q := by
  refine Rn.in rfl rfl rfl ?_
  show WP _ _ _ _ 0 [.int (nI a)] [] h
  refine wq_iload_n rfl rfl ?_
  refine wq_bipush (v := nI 10) rfl (by decide) ?_
  refine wn_irem rfl (by decide) (by omega) (by decide) ?_
  refine wq_iret rfl trivial ?_
  exact hQ
end
section
/-! the reference's window: its object at b, its arrays behind it -/
theorem uG_uG (G : Nat → Nat → Nat) (k : Nat) (g g' : Nat → Nat) : uG (uG G k g) k g' = uG G k g' := by
  funext j
  unfold uG
  by_cases h : j = k <;> simp [h]
theorem uN_uN (g : Nat → Nat) (k v v' : Nat) : uN' (uN' g k v) k v' = uN' g k v' := by
  funext j
  unfold uN'
  by_cases h : j = k <;> simp [h]
def mFs (b : Nat) (F : Nat → Nat) : List Value := [.int (nI (F 0)), .ref (b + 1), .int (nI (F 2)), .ref (b + 2), .ref (b + 3), .int (nI (F 5)), .ref (b + 4), .int (nI (F 7)), .int (nI (F 8)), .ref (b + 5), .ref (b + 6), .int (nI (F 11)), .ref (b + 7), .ref (b + 8), .ref (b + 9), .ref (b + 10), .int (nI (F 16)), .ref (b + 11), .int (nI (F 18)), .ref (b + 12), .ref (b + 13), .int (nI (F 21))]
def mCs (b : Nat) (F : Nat → Nat) (G : Nat → Nat → Nat) : mH := [.inr (8, mFs b F), .inl (1, 200, .inl (nA (G 1))), .inl (0, 41, .inl (nA (G 3))), .inl (0, 246, .inl (nA (G 4))), .inl (0, 82, .inl (nA (G 6))), .inl (0, 9, .inl (nA (G 9))), .inl (0, 9, .inl (nA (G 10))), .inl (0, 9, .inl (nA (G 12))), .inl (0, 81, .inl (nA (G 13))), .inl (0, 60, .inl (nA (G 14))), .inl (0, 60, .inl (nA (G 15))), .inl (0, 41, .inl (nA (G 17))), .inl (0, 60, .inl (nA (G 19))), .inl (0, 60, .inl (nA (G 20)))]
def mW (b : Nat) (pre : mH) (F : Nat → Nat) (G : Nat → Nat → Nat) : mH := pre ++ mCs b F G
section MW
variable {b : Nat} {pre : mH} {F : Nat → Nat} {G : Nat → Nat → Nat} (hb : pre.length = b)
theorem mW_o (hb : pre.length = b) : (mW b pre F G)[b]? = some (.inr (8, mFs b F)) := ap_get0 hb
theorem mW_s0 (hb : pre.length = b) {v : Nat} : (mW b pre F G).set b (.inr (8, (mFs b F).set 0 (.int (nI v)))) = mW b pre (uN' F 0 v) G := ap_set0 hb
theorem mW_a1 (hb : pre.length = b) : (mW b pre F G)[b + 1]? = some (.inl (1, 200, .inl (nA (G 1)))) := ap_get hb
theorem mW_t1 (hb : pre.length = b) {g : Nat → Nat} : (mW b pre F G).set (b + 1) (.inl (1, 200, .inl (nA g))) = mW b pre F (uG G 1 g) := ap_set hb
theorem mW_s2 (hb : pre.length = b) {v : Nat} : (mW b pre F G).set b (.inr (8, (mFs b F).set 2 (.int (nI v)))) = mW b pre (uN' F 2 v) G := ap_set0 hb
theorem mW_a3 (hb : pre.length = b) : (mW b pre F G)[b + 2]? = some (.inl (0, 41, .inl (nA (G 3)))) := ap_get hb
theorem mW_t3 (hb : pre.length = b) {g : Nat → Nat} : (mW b pre F G).set (b + 2) (.inl (0, 41, .inl (nA g))) = mW b pre F (uG G 3 g) := ap_set hb
theorem mW_a4 (hb : pre.length = b) : (mW b pre F G)[b + 3]? = some (.inl (0, 246, .inl (nA (G 4)))) := ap_get hb
theorem mW_t4 (hb : pre.length = b) {g : Nat → Nat} : (mW b pre F G).set (b + 3) (.inl (0, 246, .inl (nA g))) = mW b pre F (uG G 4 g) := ap_set hb
theorem mW_s5 (hb : pre.length = b) {v : Nat} : (mW b pre F G).set b (.inr (8, (mFs b F).set 5 (.int (nI v)))) = mW b pre (uN' F 5 v) G := ap_set0 hb
theorem mW_a6 (hb : pre.length = b) : (mW b pre F G)[b + 4]? = some (.inl (0, 82, .inl (nA (G 6)))) := ap_get hb
theorem mW_t6 (hb : pre.length = b) {g : Nat → Nat} : (mW b pre F G).set (b + 4) (.inl (0, 82, .inl (nA g))) = mW b pre F (uG G 6 g) := ap_set hb
theorem mW_s7 (hb : pre.length = b) {v : Nat} : (mW b pre F G).set b (.inr (8, (mFs b F).set 7 (.int (nI v)))) = mW b pre (uN' F 7 v) G := ap_set0 hb
theorem mW_s8 (hb : pre.length = b) {v : Nat} : (mW b pre F G).set b (.inr (8, (mFs b F).set 8 (.int (nI v)))) = mW b pre (uN' F 8 v) G := ap_set0 hb
theorem mW_a9 (hb : pre.length = b) : (mW b pre F G)[b + 5]? = some (.inl (0, 9, .inl (nA (G 9)))) := ap_get hb
theorem mW_t9 (hb : pre.length = b) {g : Nat → Nat} : (mW b pre F G).set (b + 5) (.inl (0, 9, .inl (nA g))) = mW b pre F (uG G 9 g) := ap_set hb
theorem mW_a10 (hb : pre.length = b) : (mW b pre F G)[b + 6]? = some (.inl (0, 9, .inl (nA (G 10)))) := ap_get hb
theorem mW_t10 (hb : pre.length = b) {g : Nat → Nat} : (mW b pre F G).set (b + 6) (.inl (0, 9, .inl (nA g))) = mW b pre F (uG G 10 g) := ap_set hb
theorem mW_s11 (hb : pre.length = b) {v : Nat} : (mW b pre F G).set b (.inr (8, (mFs b F).set 11 (.int (nI v)))) = mW b pre (uN' F 11 v) G := ap_set0 hb
theorem mW_a12 (hb : pre.length = b) : (mW b pre F G)[b + 7]? = some (.inl (0, 9, .inl (nA (G 12)))) := ap_get hb
theorem mW_t12 (hb : pre.length = b) {g : Nat → Nat} : (mW b pre F G).set (b + 7) (.inl (0, 9, .inl (nA g))) = mW b pre F (uG G 12 g) := ap_set hb
theorem mW_a13 (hb : pre.length = b) : (mW b pre F G)[b + 8]? = some (.inl (0, 81, .inl (nA (G 13)))) := ap_get hb
theorem mW_t13 (hb : pre.length = b) {g : Nat → Nat} : (mW b pre F G).set (b + 8) (.inl (0, 81, .inl (nA g))) = mW b pre F (uG G 13 g) := ap_set hb
theorem mW_a14 (hb : pre.length = b) : (mW b pre F G)[b + 9]? = some (.inl (0, 60, .inl (nA (G 14)))) := ap_get hb
theorem mW_t14 (hb : pre.length = b) {g : Nat → Nat} : (mW b pre F G).set (b + 9) (.inl (0, 60, .inl (nA g))) = mW b pre F (uG G 14 g) := ap_set hb
theorem mW_a15 (hb : pre.length = b) : (mW b pre F G)[b + 10]? = some (.inl (0, 60, .inl (nA (G 15)))) := ap_get hb
theorem mW_t15 (hb : pre.length = b) {g : Nat → Nat} : (mW b pre F G).set (b + 10) (.inl (0, 60, .inl (nA g))) = mW b pre F (uG G 15 g) := ap_set hb
theorem mW_s16 (hb : pre.length = b) {v : Nat} : (mW b pre F G).set b (.inr (8, (mFs b F).set 16 (.int (nI v)))) = mW b pre (uN' F 16 v) G := ap_set0 hb
theorem mW_a17 (hb : pre.length = b) : (mW b pre F G)[b + 11]? = some (.inl (0, 41, .inl (nA (G 17)))) := ap_get hb
theorem mW_t17 (hb : pre.length = b) {g : Nat → Nat} : (mW b pre F G).set (b + 11) (.inl (0, 41, .inl (nA g))) = mW b pre F (uG G 17 g) := ap_set hb
theorem mW_s18 (hb : pre.length = b) {v : Nat} : (mW b pre F G).set b (.inr (8, (mFs b F).set 18 (.int (nI v)))) = mW b pre (uN' F 18 v) G := ap_set0 hb
theorem mW_a19 (hb : pre.length = b) : (mW b pre F G)[b + 12]? = some (.inl (0, 60, .inl (nA (G 19)))) := ap_get hb
theorem mW_t19 (hb : pre.length = b) {g : Nat → Nat} : (mW b pre F G).set (b + 12) (.inl (0, 60, .inl (nA g))) = mW b pre F (uG G 19 g) := ap_set hb
theorem mW_a20 (hb : pre.length = b) : (mW b pre F G)[b + 13]? = some (.inl (0, 60, .inl (nA (G 20)))) := ap_get hb
theorem mW_t20 (hb : pre.length = b) {g : Nat → Nat} : (mW b pre F G).set (b + 13) (.inl (0, 60, .inl (nA g))) = mW b pre F (uG G 20 g) := ap_set hb
theorem mW_s21 (hb : pre.length = b) {v : Nat} : (mW b pre F G).set b (.inr (8, (mFs b F).set 21 (.int (nI v)))) = mW b pre (uN' F 21 v) G := ap_set0 hb
end MW
theorem r_M_kinOf {d b : Nat} {pre : mH} {F : Nat → Nat} {G : Nat → Nat → Nat} {Q : Option Value → mH → Prop} (hb : pre.length = b) {p q : Nat} (hp : p < 9) (hq : q < 9) (hQ : Q (some (.int (nI (G 13 (9 * p + q))))) (mW b pre F G)) : Rn mprog (d + 1) n_M_kinOf [.ref b, .int (nI p), .int (nI q)] (mW b pre F G) Q := by
  refine Rn.in rfl rfl rfl ?_
  show WP _ _ _ _ 0 [.ref b, .int (nI p), .int (nI q)] [] (mW b pre F G)
  refine wq_aload_n rfl rfl ?_
  refine wq_getfield (v := .ref (b + 8)) rfl (mW_o hb) rfl ?_
  refine wq_bipush (v := nI 9) rfl (by decide) ?_
  refine wq_iload_n rfl rfl ?_
  refine wn_imul rfl ?_
  refine wq_iload_n rfl rfl ?_
  refine wn_iadd rfl ?_
  refine wn_iaload (g := (G 13)) rfl (mW_a13 hb) (by omega) (by decide) ?_
  refine wq_iret rfl trivial ?_
  exact hQ
theorem r_M_makesKin {d b : Nat} {pre : mH} {F : Nat → Nat} {G : Nat → Nat → Nat} {Q : Option Value → mH → Prop} (hb : pre.length = b) {p q v : Nat} (hp : p < 9) (hq : q < 9) (hQ : Q none (mW b pre F (uG G 13 (uN' (uN' (G 13) (9 * p + q) v) (9 * q + p) v)))) : Rn mprog (d + 1) n_M_makesKin [.ref b, .int (nI p), .int (nI q), .int (nI v)] (mW b pre F G) Q := by
  refine Rn.in rfl rfl rfl ?_
  show WP _ _ _ _ 0 [.ref b, .int (nI p), .int (nI q), .int (nI v)] [] (mW b pre F G)
  refine wq_aload_n rfl rfl ?_
  refine wq_getfield (v := .ref (b + 8)) rfl (mW_o hb) rfl ?_
  refine wq_bipush (v := nI 9) rfl (by decide) ?_
  refine wq_iload_n rfl rfl ?_
  refine wn_imul rfl ?_
  refine wq_iload_n rfl rfl ?_
  refine wn_iadd rfl ?_
  refine wq_iload_n rfl rfl ?_
  refine wn_iastore (g := (G 13)) (h' := mW b pre F (uG G 13 (uN' ((G 13)) ((9 * p) + q) v))) rfl (mW_a13 hb) (by omega) (by decide) (mW_t13 hb) ?_
  refine wq_aload_n rfl rfl ?_
  refine wq_getfield (v := .ref (b + 8)) rfl (mW_o hb) rfl ?_
  refine wq_bipush (v := nI 9) rfl (by decide) ?_
  refine wq_iload_n rfl rfl ?_
  refine wn_imul rfl ?_
  refine wq_iload_n rfl rfl ?_
  refine wn_iadd rfl ?_
  refine wq_iload_n rfl rfl ?_
  refine wn_iastore (g := (uN' ((G 13)) ((9 * p) + q) v)) (h' := mW b pre F (uG (uG G 13 (uN' ((G 13)) ((9 * p) + q) v)) 13 (uN' ((uN' ((G 13)) ((9 * p) + q) v)) ((9 * q) + p) v))) rfl (mW_a13 hb) (by omega) (by decide) (mW_t13 hb) ?_
  refine wq_vret rfl rfl ?_
  exact (uG_uG _ _ _ _ ▸ hQ)
theorem r_M_ends {d b : Nat} {pre : mH} {F : Nat → Nat} {G : Nat → Nat → Nat} {Q : Option Value → mH → Prop} (hb : pre.length = b) {x y : Nat} (hn : F 16 < 60) (hQ : Q none (mW b pre (uN' F 16 (F 16 + 1)) (uG (uG G 14 (uN' (G 14) (F 16) x)) 15 (uN' (G 15) (F 16) y)))) : Rn mprog (d + 1) n_M_ends [.ref b, .int (nI x), .int (nI y)] (mW b pre F G) Q := by
  refine Rn.in rfl rfl rfl ?_
  show WP _ _ _ _ 0 [.ref b, .int (nI x), .int (nI y)] [] (mW b pre F G)
  refine wq_aload_n rfl rfl ?_
  refine wq_getfield (v := .ref (b + 9)) rfl (mW_o hb) rfl ?_
  refine wq_aload_n rfl rfl ?_
  refine wq_getfield (v := .int (nI (F 16))) rfl (mW_o hb) rfl ?_
  refine wq_iload_n rfl rfl ?_
  refine wn_iastore (g := (G 14)) (h' := mW b pre F (uG G 14 (uN' ((G 14)) (F 16) x))) rfl (mW_a14 hb) (by omega) (by decide) (mW_t14 hb) ?_
  refine wq_aload_n rfl rfl ?_
  refine wq_getfield (v := .ref (b + 10)) rfl (mW_o hb) rfl ?_
  refine wq_aload_n rfl rfl ?_
  refine wq_getfield (v := .int (nI (F 16))) rfl (mW_o hb) rfl ?_
  refine wq_iload_n rfl rfl ?_
  refine wn_iastore (g := (G 15)) (h' := mW b pre F (uG (uG G 14 (uN' ((G 14)) (F 16) x)) 15 (uN' ((G 15)) (F 16) y))) rfl (mW_a15 hb) (by omega) (by decide) (mW_t15 hb) ?_
  refine wq_aload_n rfl rfl ?_
  refine wq_dup rfl rfl ?_
  refine wq_getfield (v := .int (nI (F 16))) rfl (mW_o hb) rfl ?_
  refine wq_iconst (v := nI 1) rfl (by decide) ?_
  refine wn_iadd rfl ?_
  refine wq_putfield (h' := mW b pre (uN' F 16 ((F 16) + 1)) (uG (uG G 14 (uN' ((G 14)) (F 16) x)) 15 (uN' ((G 15)) (F 16) y))) rfl (mW_o hb) rfl (mW_s16 hb) ?_
  refine wq_vret rfl rfl ?_
  exact hQ
end
section
/-! the reference's story -/
def K2 (f : Nat → Nat → Nat) : Nat → Nat := fun k => f (k / 9) (k % 9)
theorem K2_at {f : Nat → Nat → Nat} {p q : Nat} (hq : q < 9) : K2 f (9 * p + q) = f p q := by
  unfold K2
  have e1 : (9 * p + q) / 9 = p := by omega
  have e2 : (9 * p + q) % 9 = q := by omega
  rw [e1, e2]
theorem K2_eta (g : Nat → Nat) : g = K2 fun x y => g (9 * x + y) := by
  funext k
  unfold K2
  congr 1
  omega
/-- both ways -/
def sK (f : Nat → Nat → Nat) (p q v : Nat) : Nat → Nat → Nat := fun x y => if (x = p ∧ y = q) ∨ (x = q ∧ y = p) then v else f x y
theorem K2_set {f : Nat → Nat → Nat} {p q v : Nat} (hp : p < 9) (hq : q < 9) : uN' (uN' (K2 f) (9 * p + q) v) (9 * q + p) v = K2 (sK f p q v) := by
  funext k
  unfold uN' K2 sK
  by_cases h1 : k = 9 * q + p
  · have e1 : k / 9 = q := by omega
    have e2 : k % 9 = p := by omega
    rw [if_pos h1, e1, e2, if_pos (Or.inr ⟨rfl, rfl⟩)]
  · by_cases h2 : k = 9 * p + q
    · have e3 : (9 * p + q) / 9 = p := by omega
      have e4 : (9 * p + q) % 9 = q := by omega
      subst h2
      simp [e3, e4]
    · have h3 : ¬ ((k / 9 = p ∧ k % 9 = q) ∨ (k / 9 = q ∧ k % 9 = p)) := by omega
      simp [h1, h2, h3]
def mS (b : Nat) (pre : mH) (F : Nat → Nat) (G : Nat → Nat → Nat) (th pcs brs : Nat) (be po ro : Nat → Nat) (kf : Nat → Nat → Nat) (bg en : Nat → Nat) : mH :=
  mW b pre (uN' (uN' (uN' F 8 th) 11 pcs) 16 brs) (uG (uG (uG (uG (uG (uG G 9 be) 10 po) 12 ro) 13 (K2 kf)) 14 bg) 15 en)
theorem mS_eta {b : Nat} {pre : mH} {F : Nat → Nat} {G : Nat → Nat → Nat} : mW b pre F G = mS b pre F G (F 8) (F 11) (F 16) (G 9) (G 10) (G 12) (fun x y => G 13 (9 * x + y)) (G 14) (G 15) := by
  unfold mS
  rw [← K2_eta (G 13)]
  rfl
section MS
variable {b : Nat} {pre : mH} {F : Nat → Nat} {G : Nat → Nat → Nat} {th pcs brs : Nat} {be po ro bg en : Nat → Nat} {kf : Nat → Nat → Nat}
theorem mS_o (hb : pre.length = b) : (mS b pre F G th pcs brs be po ro kf bg en)[b]? = some (.inr (8, mFs b (uN' (uN' (uN' F 8 th) 11 pcs) 16 brs))) := mW_o hb
theorem mS_s0 (hb : pre.length = b) {v : Nat} : (mS b pre F G th pcs brs be po ro kf bg en).set b (.inr (8, (mFs b (uN' (uN' (uN' F 8 th) 11 pcs) 16 brs)).set 0 (.int (nI v)))) = mS b pre (uN' F 0 v) G th pcs brs be po ro kf bg en := (mW_s0 hb).trans rfl
theorem mS_a1 (hb : pre.length = b) : (mS b pre F G th pcs brs be po ro kf bg en)[b + 1]? = some (.inl (1, 200, .inl (nA (G 1)))) := mW_a1 hb
theorem mS_t1 (hb : pre.length = b) {g : Nat → Nat} : (mS b pre F G th pcs brs be po ro kf bg en).set (b + 1) (.inl (1, 200, .inl (nA g))) = mS b pre F (uG G 1 g) th pcs brs be po ro kf bg en := (mW_t1 hb).trans rfl
theorem mS_s2 (hb : pre.length = b) {v : Nat} : (mS b pre F G th pcs brs be po ro kf bg en).set b (.inr (8, (mFs b (uN' (uN' (uN' F 8 th) 11 pcs) 16 brs)).set 2 (.int (nI v)))) = mS b pre (uN' F 2 v) G th pcs brs be po ro kf bg en := (mW_s2 hb).trans rfl
theorem mS_a3 (hb : pre.length = b) : (mS b pre F G th pcs brs be po ro kf bg en)[b + 2]? = some (.inl (0, 41, .inl (nA (G 3)))) := mW_a3 hb
theorem mS_t3 (hb : pre.length = b) {g : Nat → Nat} : (mS b pre F G th pcs brs be po ro kf bg en).set (b + 2) (.inl (0, 41, .inl (nA g))) = mS b pre F (uG G 3 g) th pcs brs be po ro kf bg en := (mW_t3 hb).trans rfl
theorem mS_a4 (hb : pre.length = b) : (mS b pre F G th pcs brs be po ro kf bg en)[b + 3]? = some (.inl (0, 246, .inl (nA (G 4)))) := mW_a4 hb
theorem mS_t4 (hb : pre.length = b) {g : Nat → Nat} : (mS b pre F G th pcs brs be po ro kf bg en).set (b + 3) (.inl (0, 246, .inl (nA g))) = mS b pre F (uG G 4 g) th pcs brs be po ro kf bg en := (mW_t4 hb).trans rfl
theorem mS_s5 (hb : pre.length = b) {v : Nat} : (mS b pre F G th pcs brs be po ro kf bg en).set b (.inr (8, (mFs b (uN' (uN' (uN' F 8 th) 11 pcs) 16 brs)).set 5 (.int (nI v)))) = mS b pre (uN' F 5 v) G th pcs brs be po ro kf bg en := (mW_s5 hb).trans rfl
theorem mS_a6 (hb : pre.length = b) : (mS b pre F G th pcs brs be po ro kf bg en)[b + 4]? = some (.inl (0, 82, .inl (nA (G 6)))) := mW_a6 hb
theorem mS_t6 (hb : pre.length = b) {g : Nat → Nat} : (mS b pre F G th pcs brs be po ro kf bg en).set (b + 4) (.inl (0, 82, .inl (nA g))) = mS b pre F (uG G 6 g) th pcs brs be po ro kf bg en := (mW_t6 hb).trans rfl
theorem mS_s7 (hb : pre.length = b) {v : Nat} : (mS b pre F G th pcs brs be po ro kf bg en).set b (.inr (8, (mFs b (uN' (uN' (uN' F 8 th) 11 pcs) 16 brs)).set 7 (.int (nI v)))) = mS b pre (uN' F 7 v) G th pcs brs be po ro kf bg en := (mW_s7 hb).trans rfl
theorem mS_s8 (hb : pre.length = b) {v : Nat} : (mS b pre F G th pcs brs be po ro kf bg en).set b (.inr (8, (mFs b (uN' (uN' (uN' F 8 th) 11 pcs) 16 brs)).set 8 (.int (nI v)))) = mS b pre F G v pcs brs be po ro kf bg en := (mW_s8 hb).trans rfl
theorem mS_a9 (hb : pre.length = b) : (mS b pre F G th pcs brs be po ro kf bg en)[b + 5]? = some (.inl (0, 9, .inl (nA be))) := mW_a9 hb
theorem mS_t9 (hb : pre.length = b) {g : Nat → Nat} : (mS b pre F G th pcs brs be po ro kf bg en).set (b + 5) (.inl (0, 9, .inl (nA g))) = mS b pre F G th pcs brs g po ro kf bg en := (mW_t9 hb).trans rfl
theorem mS_a10 (hb : pre.length = b) : (mS b pre F G th pcs brs be po ro kf bg en)[b + 6]? = some (.inl (0, 9, .inl (nA po))) := mW_a10 hb
theorem mS_t10 (hb : pre.length = b) {g : Nat → Nat} : (mS b pre F G th pcs brs be po ro kf bg en).set (b + 6) (.inl (0, 9, .inl (nA g))) = mS b pre F G th pcs brs be g ro kf bg en := (mW_t10 hb).trans rfl
theorem mS_s11 (hb : pre.length = b) {v : Nat} : (mS b pre F G th pcs brs be po ro kf bg en).set b (.inr (8, (mFs b (uN' (uN' (uN' F 8 th) 11 pcs) 16 brs)).set 11 (.int (nI v)))) = mS b pre F G th v brs be po ro kf bg en := (mW_s11 hb).trans rfl
theorem mS_a12 (hb : pre.length = b) : (mS b pre F G th pcs brs be po ro kf bg en)[b + 7]? = some (.inl (0, 9, .inl (nA ro))) := mW_a12 hb
theorem mS_t12 (hb : pre.length = b) {g : Nat → Nat} : (mS b pre F G th pcs brs be po ro kf bg en).set (b + 7) (.inl (0, 9, .inl (nA g))) = mS b pre F G th pcs brs be po g kf bg en := (mW_t12 hb).trans rfl
theorem mS_a13 (hb : pre.length = b) : (mS b pre F G th pcs brs be po ro kf bg en)[b + 8]? = some (.inl (0, 81, .inl (nA (K2 kf)))) := mW_a13 hb
theorem mS_a14 (hb : pre.length = b) : (mS b pre F G th pcs brs be po ro kf bg en)[b + 9]? = some (.inl (0, 60, .inl (nA bg))) := mW_a14 hb
theorem mS_t14 (hb : pre.length = b) {g : Nat → Nat} : (mS b pre F G th pcs brs be po ro kf bg en).set (b + 9) (.inl (0, 60, .inl (nA g))) = mS b pre F G th pcs brs be po ro kf g en := (mW_t14 hb).trans rfl
theorem mS_a15 (hb : pre.length = b) : (mS b pre F G th pcs brs be po ro kf bg en)[b + 10]? = some (.inl (0, 60, .inl (nA en))) := mW_a15 hb
theorem mS_t15 (hb : pre.length = b) {g : Nat → Nat} : (mS b pre F G th pcs brs be po ro kf bg en).set (b + 10) (.inl (0, 60, .inl (nA g))) = mS b pre F G th pcs brs be po ro kf bg g := (mW_t15 hb).trans rfl
theorem mS_s16 (hb : pre.length = b) {v : Nat} : (mS b pre F G th pcs brs be po ro kf bg en).set b (.inr (8, (mFs b (uN' (uN' (uN' F 8 th) 11 pcs) 16 brs)).set 16 (.int (nI v)))) = mS b pre F G th pcs v be po ro kf bg en := (mW_s16 hb).trans rfl
theorem mS_a17 (hb : pre.length = b) : (mS b pre F G th pcs brs be po ro kf bg en)[b + 11]? = some (.inl (0, 41, .inl (nA (G 17)))) := mW_a17 hb
theorem mS_t17 (hb : pre.length = b) {g : Nat → Nat} : (mS b pre F G th pcs brs be po ro kf bg en).set (b + 11) (.inl (0, 41, .inl (nA g))) = mS b pre F (uG G 17 g) th pcs brs be po ro kf bg en := (mW_t17 hb).trans rfl
theorem mS_s18 (hb : pre.length = b) {v : Nat} : (mS b pre F G th pcs brs be po ro kf bg en).set b (.inr (8, (mFs b (uN' (uN' (uN' F 8 th) 11 pcs) 16 brs)).set 18 (.int (nI v)))) = mS b pre (uN' F 18 v) G th pcs brs be po ro kf bg en := (mW_s18 hb).trans rfl
theorem mS_a19 (hb : pre.length = b) : (mS b pre F G th pcs brs be po ro kf bg en)[b + 12]? = some (.inl (0, 60, .inl (nA (G 19)))) := mW_a19 hb
theorem mS_t19 (hb : pre.length = b) {g : Nat → Nat} : (mS b pre F G th pcs brs be po ro kf bg en).set (b + 12) (.inl (0, 60, .inl (nA g))) = mS b pre F (uG G 19 g) th pcs brs be po ro kf bg en := (mW_t19 hb).trans rfl
theorem mS_a20 (hb : pre.length = b) : (mS b pre F G th pcs brs be po ro kf bg en)[b + 13]? = some (.inl (0, 60, .inl (nA (G 20)))) := mW_a20 hb
theorem mS_t20 (hb : pre.length = b) {g : Nat → Nat} : (mS b pre F G th pcs brs be po ro kf bg en).set (b + 13) (.inl (0, 60, .inl (nA g))) = mS b pre F (uG G 20 g) th pcs brs be po ro kf bg en := (mW_t20 hb).trans rfl
theorem mS_s21 (hb : pre.length = b) {v : Nat} : (mS b pre F G th pcs brs be po ro kf bg en).set b (.inr (8, (mFs b (uN' (uN' (uN' F 8 th) 11 pcs) 16 brs)).set 21 (.int (nI v)))) = mS b pre (uN' F 21 v) G th pcs brs be po ro kf bg en := (mW_s21 hb).trans rfl
end MS
theorem r_S_kinOf {d b : Nat} {pre : mH} {F : Nat → Nat} {G : Nat → Nat → Nat} {th pcs brs : Nat} {be po ro bg en : Nat → Nat} {kf : Nat → Nat → Nat} {Q : Option Value → mH → Prop} (hb : pre.length = b) {p q : Nat} (hp : p < 9) (hq : q < 9) (hQ : Q (some (.int (nI (kf p q)))) (mS b pre F G th pcs brs be po ro kf bg en)) : Rn mprog (d + 1) n_M_kinOf [.ref b, .int (nI p), .int (nI q)] (mS b pre F G th pcs brs be po ro kf bg en) Q := r_M_kinOf hb hp hq (by have e : K2 kf (9 * p + q) = kf p q := K2_at hq; show Q (some (.int (nI (K2 kf (9 * p + q))))) _; rw [e]; exact hQ)
theorem r_S_makesKin {d b : Nat} {pre : mH} {F : Nat → Nat} {G : Nat → Nat → Nat} {th pcs brs : Nat} {be po ro bg en : Nat → Nat} {kf : Nat → Nat → Nat} {Q : Option Value → mH → Prop} (hb : pre.length = b) {p q v : Nat} (hp : p < 9) (hq : q < 9) (hQ : Q none (mS b pre F G th pcs brs be po ro ((sK kf p q v)) bg en)) : Rn mprog (d + 1) n_M_makesKin [.ref b, .int (nI p), .int (nI q), .int (nI v)] (mS b pre F G th pcs brs be po ro kf bg en) Q := r_M_makesKin hb hp hq (by have e := K2_set (f := kf) (v := v) hp hq; unfold mS at hQ; rw [← e] at hQ; exact hQ)
theorem r_S_ends {d b : Nat} {pre : mH} {F : Nat → Nat} {G : Nat → Nat → Nat} {th pcs brs : Nat} {be po ro bg en : Nat → Nat} {kf : Nat → Nat → Nat} {Q : Option Value → mH → Prop} (hb : pre.length = b) {x y : Nat} (hn : brs < 60) (hQ : Q none (mS b pre F G th pcs ((brs + 1)) be po ro kf ((uN' bg brs x)) ((uN' en brs y)))) : Rn mprog (d + 1) n_M_ends [.ref b, .int (nI x), .int (nI y)] (mS b pre F G th pcs brs be po ro kf bg en) Q := r_M_ends hb hn hQ
theorem l_S_freePiece {d b : Nat} {pre : mH} {F : Nat → Nat} {G : Nat → Nat → Nat} {th pcs brs : Nat} {be po ro bg en : Nat → Nat} {kf : Nat → Nat → Nat} {Q : Option Value → mH → Prop} (hb : pre.length = b) (hp : pcs < 512) (hQ : ∀ l, l ≤ 9 → pcs.testBit l = false → (∀ j, j < l → pcs.testBit j = true) → Q (some (.int (nI l))) (mS b pre F G th pcs brs be po ro kf bg en)) : ∀ (n i : Nat), i + n = 10 → i ≤ 9 → (∀ j, j < i → pcs.testBit j = true) → WP (Rn mprog (d + 1)) k_M_freePiece (some .int) Q 2 [.ref b, .int (nI i)] [] (mS b pre F G th pcs brs be po ro kf bg en) := by
  intro n
  induction n with
  | zero => intro i h1 h2; omega
  | succ n ih =>
    intro i h1 h2 hj
    refine wq_aload_n rfl rfl ?_
    refine wq_getfield (v := .int (nI pcs)) rfl (mS_o hb) rfl ?_
    refine wq_iload_n rfl rfl ?_
    refine wq_stat (a := [.int (nI pcs), .int (nI i)]) (rest := []) rfl rfl rfl rfl rfl ?_
    refine r_M_has (by omega) (by omega) (fun c7 => ?_) (fun c7 => ?_)
    · skip
      show WP _ _ _ _ 10 [.ref b, .int (nI i)] [.int (nI 1)] (mS b pre F G th pcs brs be po ro kf bg en)
      refine wq_if_eq rfl (fun c => absurd c (by decide)) (fun _ => ?_)
      refine wn_inc (lv' := [.ref b, .int (nI (i + 1))]) rfl rfl rfl ?_
      refine wq_goto rfl ?_
      have hi9 : i ≠ 9 := by
        intro q
        subst q
        exact absurd (bit_lt (n := 9) hp (Nat.le_refl 9)) (by rw [c7]; decide)
      exact ih (i + 1) (by omega) (by omega) (fun j q => (Nat.lt_or_eq_of_le (Nat.le_of_lt_succ q)).elim (hj j) (fun e => by rw [e]; exact c7))
    · skip
      show WP _ _ _ _ 10 [.ref b, .int (nI i)] [.int (nI 0)] (mS b pre F G th pcs brs be po ro kf bg en)
      refine wq_if_eq rfl (fun _ => ?_) (fun c => absurd c (by decide))
      refine wq_iload_n rfl rfl ?_
      refine wq_iret rfl trivial ?_
      exact hQ i h2 c7 hj
theorem r_S_freePiece {d b : Nat} {pre : mH} {F : Nat → Nat} {G : Nat → Nat → Nat} {th pcs brs : Nat} {be po ro bg en : Nat → Nat} {kf : Nat → Nat → Nat} {Q : Option Value → mH → Prop} (hb : pre.length = b) (hp : pcs < 512) (hQ : ∀ l, l ≤ 9 → pcs.testBit l = false → (∀ j, j < l → pcs.testBit j = true) → Q (some (.int (nI l))) (mS b pre F G th pcs brs be po ro kf bg en)) : Rn mprog (d + 2) n_M_freePiece [.ref b] (mS b pre F G th pcs brs be po ro kf bg en) Q := by
  refine Rn.in rfl rfl rfl ?_
  show WP _ _ _ _ 0 [.ref b, .long 0] [] (mS b pre F G th pcs brs be po ro kf bg en)
  refine wq_iconst (v := nI 0) rfl (by decide) ?_
  refine wq_istore_n (lv' := [.ref b, .int (nI 0)]) rfl rfl rfl ?_
  exact l_S_freePiece hb hp hQ 10 0 rfl (by decide) (fun j q => absurd q (Nat.not_lt_zero j))
def mayB (th : Nat) (be : Nat → Nat) (κ A B : Nat) : Bool := if κ = 0 then !th.testBit A else if κ = 1 then th.testBit A && decide (be A = 0) else if κ = 2 then decide (A ≠ B) && th.testBit A && th.testBit B && !(be A).testBit B else (be A).testBit B
theorem r_S_may {d b : Nat} {pre : mH} {F : Nat → Nat} {G : Nat → Nat → Nat} {th pcs brs : Nat} {be po ro bg en : Nat → Nat} {kf : Nat → Nat → Nat} {Q : Option Value → mH → Prop} (hb : pre.length = b) {cd : Nat} (hcd : cd < 400) (h1 : cd / 10 % 10 < 9) (h2 : cd % 10 < 9) (hth : th < 512) (hbe : ∀ p, p < 9 → be p < 512) (kt : mayB th be (cd / 100) (cd / 10 % 10) (cd % 10) = true → Q (some (.int (nI 1))) (mS b pre F G th pcs brs be po ro kf bg en)) (kfl : mayB th be (cd / 100) (cd / 10 % 10) (cd % 10) = false → Q (some (.int (nI 0))) (mS b pre F G th pcs brs be po ro kf bg en)) : Rn mprog (d + 2) n_M_may [.ref b, .int (nI cd)] (mS b pre F G th pcs brs be po ro kf bg en) Q := by
  refine Rn.in rfl rfl rfl ?_
  show WP _ _ _ _ 0 [.ref b, .int (nI cd), .long 0, .long 0] [] (mS b pre F G th pcs brs be po ro kf bg en)
  refine wq_iload_n rfl rfl ?_
  refine wq_stat (a := [.int (nI cd)]) (rest := []) rfl rfl rfl rfl rfl ?_
  refine r_M_oneOf (by omega) ?_
  show WP _ _ _ _ 4 [.ref b, .int (nI cd), .long 0, .long 0] [.int (nI (cd / 10 % 10))] (mS b pre F G th pcs brs be po ro kf bg en)
  refine wq_istore_n (lv' := [.ref b, .int (nI cd), .int (nI (cd / 10 % 10)), .long 0]) rfl rfl rfl ?_
  refine wq_iload_n rfl rfl ?_
  refine wq_stat (a := [.int (nI cd)]) (rest := []) rfl rfl rfl rfl rfl ?_
  refine r_M_otherOf (by omega) ?_
  show WP _ _ _ _ 9 [.ref b, .int (nI cd), .int (nI (cd / 10 % 10)), .long 0] [.int (nI (cd % 10))] (mS b pre F G th pcs brs be po ro kf bg en)
  refine wq_istore_n (lv' := [.ref b, .int (nI cd), .int (nI (cd / 10 % 10)), .int (nI (cd % 10))]) rfl rfl rfl ?_
  refine wq_iload_n rfl rfl ?_
  refine wq_stat (a := [.int (nI cd)]) (rest := []) rfl rfl rfl rfl rfl ?_
  refine r_M_kindOf (by omega) ?_
  show WP _ _ _ _ 14 [.ref b, .int (nI cd), .int (nI (cd / 10 % 10)), .int (nI (cd % 10))] [.int (nI (cd / 100))] (mS b pre F G th pcs brs be po ro kf bg en)
  rcases (show cd / 100 = 0 ∨ cd / 100 = 1 ∨ cd / 100 = 2 ∨ cd / 100 = 3 by omega) with e14 | e14 | e14 | e14
  · refine wq_tsw (t := 40) rfl (by rw [e14]; decide) ?_
    refine wq_aload_n rfl rfl ?_
    refine wq_getfield (v := .int (nI th)) rfl (mS_o hb) rfl ?_
    refine wq_iload_n rfl rfl ?_
    refine wq_stat (a := [.int (nI th), .int (nI (cd / 10 % 10))]) (rest := []) rfl rfl rfl rfl rfl ?_
    refine r_M_has (by omega) (by omega) (fun c45 => ?_) (fun c45 => ?_)
    · skip
      show WP _ _ _ _ 48 [.ref b, .int (nI cd), .int (nI (cd / 10 % 10)), .int (nI (cd % 10))] [.int (nI 1)] (mS b pre F G th pcs brs be po ro kf bg en)
      refine wq_if_ne rfl (fun _ => ?_) (fun c => absurd c (by decide))
      refine wq_iconst (v := nI 0) rfl (by decide) ?_
      refine wq_iret rfl (by first | exact Or.inl rfl | exact Or.inr rfl) ?_
      exact kfl (by simp [mayB, e14, c45])
    · skip
      show WP _ _ _ _ 48 [.ref b, .int (nI cd), .int (nI (cd / 10 % 10)), .int (nI (cd % 10))] [.int (nI 0)] (mS b pre F G th pcs brs be po ro kf bg en)
      refine wq_if_ne rfl (fun c => absurd c (by decide)) (fun _ => ?_)
      refine wq_iconst (v := nI 1) rfl (by decide) ?_
      refine wq_goto rfl ?_
      refine wq_iret rfl (by first | exact Or.inl rfl | exact Or.inr rfl) ?_
      exact kt (by simp [mayB, e14, c45])
  · refine wq_tsw (t := 57) rfl (by rw [e14]; decide) ?_
    refine wq_aload_n rfl rfl ?_
    refine wq_getfield (v := .int (nI th)) rfl (mS_o hb) rfl ?_
    refine wq_iload_n rfl rfl ?_
    refine wq_stat (a := [.int (nI th), .int (nI (cd / 10 % 10))]) (rest := []) rfl rfl rfl rfl rfl ?_
    refine r_M_has (by omega) (by omega) (fun c62 => ?_) (fun c62 => ?_)
    · skip
      show WP _ _ _ _ 65 [.ref b, .int (nI cd), .int (nI (cd / 10 % 10)), .int (nI (cd % 10))] [.int (nI 1)] (mS b pre F G th pcs brs be po ro kf bg en)
      refine wq_if_eq rfl (fun c => absurd c (by decide)) (fun _ => ?_)
      refine wq_aload_n rfl rfl ?_
      refine wq_getfield (v := .ref (b + 5)) rfl (mS_o hb) rfl ?_
      refine wq_iload_n rfl rfl ?_
      refine wn_iaload (g := be) rfl (mS_a9 hb) (by omega) (by decide) ?_
      have hbx := hbe _ h1
      refine wn_if_ne rfl (by omega) (fun c74 => ?_) (fun c74 => ?_)
      · skip
        refine wq_iconst (v := nI 0) rfl (by decide) ?_
        refine wq_iret rfl (by first | exact Or.inl rfl | exact Or.inr rfl) ?_
        exact kfl (by simp [mayB, e14, c62, c74])
      · skip
        refine wq_iconst (v := nI 1) rfl (by decide) ?_
        refine wq_goto rfl ?_
        refine wq_iret rfl (by first | exact Or.inl rfl | exact Or.inr rfl) ?_
        exact kt (by simp [mayB, e14, c62, c74])
    · skip
      show WP _ _ _ _ 65 [.ref b, .int (nI cd), .int (nI (cd / 10 % 10)), .int (nI (cd % 10))] [.int (nI 0)] (mS b pre F G th pcs brs be po ro kf bg en)
      refine wq_if_eq rfl (fun _ => ?_) (fun c => absurd c (by decide))
      refine wq_iconst (v := nI 0) rfl (by decide) ?_
      refine wq_iret rfl (by first | exact Or.inl rfl | exact Or.inr rfl) ?_
      exact kfl (by simp [mayB, e14, c62])
  · refine wq_tsw (t := 83) rfl (by rw [e14]; decide) ?_
    refine wq_iload_n rfl rfl ?_
    refine wq_iload_n rfl rfl ?_
    refine wn_ic_eq rfl (by omega) (by omega) (fun c85 => ?_) (fun c85 => ?_)
    · skip
      refine wq_iconst (v := nI 0) rfl (by decide) ?_
      refine wq_iret rfl (by first | exact Or.inl rfl | exact Or.inr rfl) ?_
      exact kfl (by simp [mayB, e14, c85])
    · skip
      refine wq_aload_n rfl rfl ?_
      refine wq_getfield (v := .int (nI th)) rfl (mS_o hb) rfl ?_
      refine wq_iload_n rfl rfl ?_
      refine wq_stat (a := [.int (nI th), .int (nI (cd / 10 % 10))]) (rest := []) rfl rfl rfl rfl rfl ?_
      refine r_M_has (by omega) (by omega) (fun c93 => ?_) (fun c93 => ?_)
      · skip
        show WP _ _ _ _ 96 [.ref b, .int (nI cd), .int (nI (cd / 10 % 10)), .int (nI (cd % 10))] [.int (nI 1)] (mS b pre F G th pcs brs be po ro kf bg en)
        refine wq_if_eq rfl (fun c => absurd c (by decide)) (fun _ => ?_)
        refine wq_aload_n rfl rfl ?_
        refine wq_getfield (v := .int (nI th)) rfl (mS_o hb) rfl ?_
        refine wq_iload_n rfl rfl ?_
        refine wq_stat (a := [.int (nI th), .int (nI (cd % 10))]) (rest := []) rfl rfl rfl rfl rfl ?_
        refine r_M_has (by omega) (by omega) (fun c104 => ?_) (fun c104 => ?_)
        · skip
          show WP _ _ _ _ 107 [.ref b, .int (nI cd), .int (nI (cd / 10 % 10)), .int (nI (cd % 10))] [.int (nI 1)] (mS b pre F G th pcs brs be po ro kf bg en)
          refine wq_if_eq rfl (fun c => absurd c (by decide)) (fun _ => ?_)
          refine wq_aload_n rfl rfl ?_
          refine wq_getfield (v := .ref (b + 5)) rfl (mS_o hb) rfl ?_
          refine wq_iload_n rfl rfl ?_
          refine wn_iaload (g := be) rfl (mS_a9 hb) (by omega) (by decide) ?_
          refine wq_iload_n rfl rfl ?_
          have hbx := hbe _ h1
          refine wq_stat (a := [.int (nI (be (cd / 10 % 10))), .int (nI (cd % 10))]) (rest := []) rfl rfl rfl rfl rfl ?_
          refine r_M_has (by omega) (by omega) (fun c117 => ?_) (fun c117 => ?_)
          · skip
            show WP _ _ _ _ 120 [.ref b, .int (nI cd), .int (nI (cd / 10 % 10)), .int (nI (cd % 10))] [.int (nI 1)] (mS b pre F G th pcs brs be po ro kf bg en)
            refine wq_if_ne rfl (fun _ => ?_) (fun c => absurd c (by decide))
            refine wq_iconst (v := nI 0) rfl (by decide) ?_
            refine wq_iret rfl (by first | exact Or.inl rfl | exact Or.inr rfl) ?_
            exact kfl (by simp [mayB, e14, c85, c93, c104, c117])
          · skip
            show WP _ _ _ _ 120 [.ref b, .int (nI cd), .int (nI (cd / 10 % 10)), .int (nI (cd % 10))] [.int (nI 0)] (mS b pre F G th pcs brs be po ro kf bg en)
            refine wq_if_ne rfl (fun c => absurd c (by decide)) (fun _ => ?_)
            refine wq_iconst (v := nI 1) rfl (by decide) ?_
            refine wq_goto rfl ?_
            refine wq_iret rfl (by first | exact Or.inl rfl | exact Or.inr rfl) ?_
            exact kt (by simp [mayB, e14, c85, c93, c104, c117])
        · skip
          show WP _ _ _ _ 107 [.ref b, .int (nI cd), .int (nI (cd / 10 % 10)), .int (nI (cd % 10))] [.int (nI 0)] (mS b pre F G th pcs brs be po ro kf bg en)
          refine wq_if_eq rfl (fun _ => ?_) (fun c => absurd c (by decide))
          refine wq_iconst (v := nI 0) rfl (by decide) ?_
          refine wq_iret rfl (by first | exact Or.inl rfl | exact Or.inr rfl) ?_
          exact kfl (by simp [mayB, e14, c85, c93, c104])
      · skip
        show WP _ _ _ _ 96 [.ref b, .int (nI cd), .int (nI (cd / 10 % 10)), .int (nI (cd % 10))] [.int (nI 0)] (mS b pre F G th pcs brs be po ro kf bg en)
        refine wq_if_eq rfl (fun _ => ?_) (fun c => absurd c (by decide))
        refine wq_iconst (v := nI 0) rfl (by decide) ?_
        refine wq_iret rfl (by first | exact Or.inl rfl | exact Or.inr rfl) ?_
        exact kfl (by simp [mayB, e14, c85, c93])
  · refine wq_tsw (t := 129) rfl (by rw [e14]; decide) ?_
    refine wq_aload_n rfl rfl ?_
    refine wq_getfield (v := .ref (b + 5)) rfl (mS_o hb) rfl ?_
    refine wq_iload_n rfl rfl ?_
    refine wn_iaload (g := be) rfl (mS_a9 hb) (by omega) (by decide) ?_
    refine wq_iload_n rfl rfl ?_
    have hbx := hbe _ h1
    refine wq_stat (a := [.int (nI (be (cd / 10 % 10))), .int (nI (cd % 10))]) (rest := []) rfl rfl rfl rfl rfl ?_
    refine r_M_has (by omega) (by omega) (fun c136 => ?_) (fun c136 => ?_)
    · skip
      show WP _ _ _ _ 139 [.ref b, .int (nI cd), .int (nI (cd / 10 % 10)), .int (nI (cd % 10))] [.int (nI 1)] (mS b pre F G th pcs brs be po ro kf bg en)
      refine wq_iret rfl (by first | exact Or.inl rfl | exact Or.inr rfl) ?_
      exact kt (by simp [mayB, e14, c136])
    · skip
      show WP _ _ _ _ 139 [.ref b, .int (nI cd), .int (nI (cd / 10 % 10)), .int (nI (cd % 10))] [.int (nI 0)] (mS b pre F G th pcs brs be po ro kf bg en)
      refine wq_iret rfl (by first | exact Or.inl rfl | exact Or.inr rfl) ?_
      exact kfl (by simp [mayB, e14, c136])
/-- the greatest number since which a piece is kin with one of the others -/
def mxK (pcs : Nat) (r : Nat → Nat) (its : Nat) : Nat → Nat
  | 0 => 0
  | i + 1 => if pcs.testBit i = true ∧ i ≠ its ∧ mxK pcs r its i < r i then r i else mxK pcs r its i
theorem mxK_t {pcs its i : Nat} {r : Nat → Nat} (h1 : pcs.testBit i = true) (h2 : i ≠ its) (h3 : mxK pcs r its i < r i) : mxK pcs r its (i + 1) = r i := if_pos ⟨h1, h2, h3⟩
theorem mxK_f {pcs its i : Nat} {r : Nat → Nat} (h : ¬ (pcs.testBit i = true ∧ i ≠ its ∧ mxK pcs r its i < r i)) : mxK pcs r its (i + 1) = mxK pcs r its i := if_neg h
theorem mxK_le {pcs its m : Nat} {r : Nat → Nat} (h : ∀ q, q < 9 → r q ≤ m) : ∀ i, i ≤ 9 → mxK pcs r its i ≤ m
  | 0, _ => Nat.zero_le _
  | i + 1, hi => by
    unfold mxK
    split
    · exact h i (by omega)
    · exact mxK_le h i (by omega)
theorem l_S_goes {d b : Nat} {pre : mH} {F : Nat → Nat} {G : Nat → Nat → Nat} {th pcs brs : Nat} {be po ro bg en : Nat → Nat} {kf : Nat → Nat → Nat} {Q : Option Value → mH → Prop} (hb : pre.length = b) {its num : Nat} (hits : its < 9) (hp : pcs < 512) (hbr : brs < 60) (hk : ∀ q, q < 9 → kf its q < 1000) (hro : ro its < 1000) (hQ : Q none (mS b pre F G th (nd pcs (1 <<< its)) (brs + 1) be po ro kf (uN' bg brs (if mxK pcs (kf its) its 9 = 0 then ro its else mxK pcs (kf its) its 9)) (uN' en brs num))) : ∀ (n i : Nat), i + n = 9 → WP (Rn mprog (d + 1)) k_M_goes none Q 5 [.ref b, .int (nI its), .int (nI num), .int (nI (mxK pcs (kf its) its i)), .int (nI i)] [] (mS b pre F G th pcs brs be po ro kf bg en) := by
  intro n
  induction n with
  | zero =>
    intro i h1
    have hi : i = 9 := by omega
    subst hi
    have hm := mxK_le (pcs := pcs) (its := its) (m := 999) (r := kf its) (fun q hq => by have := hk q hq; omega) 9 (Nat.le_refl 9)
    have hs9 := sh_lt (n := 9) hits
    refine wq_iload rfl rfl ?_
    refine wq_bipush (v := nI 9) rfl (by decide) ?_
    refine wq_ic_ge rfl (fun _ => ?_) (fun c => absurd c (by decide))
    refine wq_aload_n rfl rfl ?_
    refine wq_iload_n rfl rfl ?_
    refine wn_if_ne rfl (by omega) (fun c61 => ?_) (fun c61 => ?_)
    · skip
      refine wq_iload_n rfl rfl ?_
      refine wq_iload_n rfl rfl ?_
      refine wq_virt (b := b) (a := [.int (nI (mxK pcs (kf its) its 9)), .int (nI num)]) (rest := []) rfl rfl rfl rfl rfl (mS_o hb) ?_
      refine r_S_ends hb (by omega) ?_
      show WP _ _ _ _ 78 [.ref b, .int (nI its), .int (nI num), .int (nI (mxK pcs (kf its) its 9)), .int (nI 9)] [] (mS b pre F G th pcs (brs + 1) be po ro kf (uN' bg brs (mxK pcs (kf its) its 9)) (uN' en brs num))
      refine wq_aload_n rfl rfl ?_
      refine wq_dup rfl rfl ?_
      refine wq_getfield (v := .int (nI pcs)) rfl (mS_o hb) rfl ?_
      refine wq_iconst (v := nI 1) rfl (by decide) ?_
      refine wq_iload_n rfl rfl ?_
      refine wn_ishl rfl (by omega) (by omega) ?_
      refine wq_iconst (v := (-1)) rfl (by decide) ?_
      refine wq_ixor (v := (nI (1 <<< its) ^^^ (-1))) rfl rfl ?_
      refine wn_andn rfl ?_
      refine wq_putfield (h' := mS b pre F G th (nd pcs (1 <<< its)) (brs + 1) be po ro kf (uN' bg brs (mxK pcs (kf its) its 9)) (uN' en brs num)) rfl (mS_o hb) rfl (mS_s11 hb) ?_
      refine wq_vret rfl rfl ?_
      first | (rw [if_pos c61] at hQ; exact hQ) | (rw [if_neg c61] at hQ; exact hQ)
    · skip
      refine wq_aload_n rfl rfl ?_
      refine wq_getfield (v := .ref (b + 7)) rfl (mS_o hb) rfl ?_
      refine wq_iload_n rfl rfl ?_
      refine wn_iaload (g := ro) rfl (mS_a12 hb) (by omega) (by decide) ?_
      refine wq_goto rfl ?_
      refine wq_iload_n rfl rfl ?_
      refine wq_virt (b := b) (a := [.int (nI (ro its)), .int (nI num)]) (rest := []) rfl rfl rfl rfl rfl (mS_o hb) ?_
      refine r_S_ends hb (by omega) ?_
      show WP _ _ _ _ 78 [.ref b, .int (nI its), .int (nI num), .int (nI (mxK pcs (kf its) its 9)), .int (nI 9)] [] (mS b pre F G th pcs (brs + 1) be po ro kf (uN' bg brs (ro its)) (uN' en brs num))
      refine wq_aload_n rfl rfl ?_
      refine wq_dup rfl rfl ?_
      refine wq_getfield (v := .int (nI pcs)) rfl (mS_o hb) rfl ?_
      refine wq_iconst (v := nI 1) rfl (by decide) ?_
      refine wq_iload_n rfl rfl ?_
      refine wn_ishl rfl (by omega) (by omega) ?_
      refine wq_iconst (v := (-1)) rfl (by decide) ?_
      refine wq_ixor (v := (nI (1 <<< its) ^^^ (-1))) rfl rfl ?_
      refine wn_andn rfl ?_
      refine wq_putfield (h' := mS b pre F G th (nd pcs (1 <<< its)) (brs + 1) be po ro kf (uN' bg brs (ro its)) (uN' en brs num)) rfl (mS_o hb) rfl (mS_s11 hb) ?_
      refine wq_vret rfl rfl ?_
      first | (rw [if_pos c61] at hQ; exact hQ) | (rw [if_neg c61] at hQ; exact hQ)
  | succ n ih =>
    intro i h1
    have hm := mxK_le (pcs := pcs) (its := its) (m := 999) (r := kf its) (fun q hq => by have := hk q hq; omega) i (by omega)
    have hki := hk i (by omega)
    refine wq_iload rfl rfl ?_
    refine wq_bipush (v := nI 9) rfl (by decide) ?_
    refine wn_ic_ge rfl (by omega) (by omega) (fun c9 => absurd c9 (by omega)) (fun c9 => ?_)
    refine wq_aload_n rfl rfl ?_
    refine wq_getfield (v := .int (nI pcs)) rfl (mS_o hb) rfl ?_
    refine wq_iload rfl rfl ?_
    refine wq_stat (a := [.int (nI pcs), .int (nI i)]) (rest := []) rfl rfl rfl rfl rfl ?_
    refine r_M_has (by omega) (by omega) (fun c18 => ?_) (fun c18 => ?_)
    · skip
      show WP _ _ _ _ 21 [.ref b, .int (nI its), .int (nI num), .int (nI (mxK pcs (kf its) its i)), .int (nI i)] [.int (nI 1)] (mS b pre F G th pcs brs be po ro kf bg en)
      refine wq_if_eq rfl (fun c => absurd c (by decide)) (fun _ => ?_)
      refine wq_iload rfl rfl ?_
      refine wq_iload_n rfl rfl ?_
      refine wn_ic_eq rfl (by omega) (by omega) (fun c27 => ?_) (fun c27 => ?_)
      · skip
        refine wq_iload_n rfl rfl ?_
        refine wq_istore_n (lv' := [.ref b, .int (nI its), .int (nI num), .int (nI (mxK pcs (kf its) its i)), .int (nI i)]) rfl rfl rfl ?_
        refine wn_inc (lv' := [.ref b, .int (nI its), .int (nI num), .int (nI (mxK pcs (kf its) its i)), .int (nI (i + 1))]) rfl rfl rfl ?_
        refine wq_goto rfl ?_
        have e := mxK_f (pcs := pcs) (its := its) (i := i) (r := kf its) (fun q => by exact q.2.1 c27)
        rw [← e]
        exact ih (i + 1) (by omega)
      · skip
        refine wq_aload_n rfl rfl ?_
        refine wq_iload_n rfl rfl ?_
        refine wq_iload rfl rfl ?_
        refine wq_virt (b := b) (a := [.int (nI its), .int (nI i)]) (rest := []) rfl rfl rfl rfl rfl (mS_o hb) ?_
        refine r_S_kinOf hb (by omega) (by omega) ?_
        show WP _ _ _ _ 37 [.ref b, .int (nI its), .int (nI num), .int (nI (mxK pcs (kf its) its i)), .int (nI i)] [.int (nI (kf its i))] (mS b pre F G th pcs brs be po ro kf bg en)
        refine wq_iload_n rfl rfl ?_
        refine wn_ic_le rfl (by omega) (by omega) (fun c38 => ?_) (fun c38 => ?_)
        · skip
          refine wq_iload_n rfl rfl ?_
          refine wq_istore_n (lv' := [.ref b, .int (nI its), .int (nI num), .int (nI (mxK pcs (kf its) its i)), .int (nI i)]) rfl rfl rfl ?_
          refine wn_inc (lv' := [.ref b, .int (nI its), .int (nI num), .int (nI (mxK pcs (kf its) its i)), .int (nI (i + 1))]) rfl rfl rfl ?_
          refine wq_goto rfl ?_
          have e := mxK_f (pcs := pcs) (its := its) (i := i) (r := kf its) (fun q => by have := q.2.2; omega)
          rw [← e]
          exact ih (i + 1) (by omega)
        · skip
          refine wq_aload_n rfl rfl ?_
          refine wq_iload_n rfl rfl ?_
          refine wq_iload rfl rfl ?_
          refine wq_virt (b := b) (a := [.int (nI its), .int (nI i)]) (rest := []) rfl rfl rfl rfl rfl (mS_o hb) ?_
          refine r_S_kinOf hb (by omega) (by omega) ?_
          show WP _ _ _ _ 48 [.ref b, .int (nI its), .int (nI num), .int (nI (mxK pcs (kf its) its i)), .int (nI i)] [.int (nI (kf its i))] (mS b pre F G th pcs brs be po ro kf bg en)
          refine wq_goto rfl ?_
          refine wq_istore_n (lv' := [.ref b, .int (nI its), .int (nI num), .int (nI (kf its i)), .int (nI i)]) rfl rfl rfl ?_
          refine wn_inc (lv' := [.ref b, .int (nI its), .int (nI num), .int (nI (kf its i)), .int (nI (i + 1))]) rfl rfl rfl ?_
          refine wq_goto rfl ?_
          have e := mxK_t (r := kf its) c18 c27 (by omega)
          rw [← e]
          exact ih (i + 1) (by omega)
    · skip
      show WP _ _ _ _ 21 [.ref b, .int (nI its), .int (nI num), .int (nI (mxK pcs (kf its) its i)), .int (nI i)] [.int (nI 0)] (mS b pre F G th pcs brs be po ro kf bg en)
      refine wq_if_eq rfl (fun _ => ?_) (fun c => absurd c (by decide))
      refine wq_iload_n rfl rfl ?_
      refine wq_istore_n (lv' := [.ref b, .int (nI its), .int (nI num), .int (nI (mxK pcs (kf its) its i)), .int (nI i)]) rfl rfl rfl ?_
      refine wn_inc (lv' := [.ref b, .int (nI its), .int (nI num), .int (nI (mxK pcs (kf its) its i)), .int (nI (i + 1))]) rfl rfl rfl ?_
      refine wq_goto rfl ?_
      have e := mxK_f (pcs := pcs) (its := its) (i := i) (r := kf its) (fun q => by exact absurd q.1 (by rw [c18]; decide))
      rw [← e]
      exact ih (i + 1) (by omega)
theorem r_S_goes {d b : Nat} {pre : mH} {F : Nat → Nat} {G : Nat → Nat → Nat} {th pcs brs : Nat} {be po ro bg en : Nat → Nat} {kf : Nat → Nat → Nat} {Q : Option Value → mH → Prop} (hb : pre.length = b) {its num : Nat} (hits : its < 9) (hp : pcs < 512) (hbr : brs < 60) (hk : ∀ q, q < 9 → kf its q < 1000) (hro : ro its < 1000) (hQ : Q none (mS b pre F G th (nd pcs (1 <<< its)) (brs + 1) be po ro kf (uN' bg brs (if mxK pcs (kf its) its 9 = 0 then ro its else mxK pcs (kf its) its 9)) (uN' en brs num))) : Rn mprog (d + 2) n_M_goes [.ref b, .int (nI its), .int (nI num)] (mS b pre F G th pcs brs be po ro kf bg en) Q := by
  refine Rn.in rfl rfl rfl ?_
  show WP _ _ _ _ 0 [.ref b, .int (nI its), .int (nI num), .long 0, .long 0] [] (mS b pre F G th pcs brs be po ro kf bg en)
  refine wq_iconst (v := nI 0) rfl (by decide) ?_
  refine wq_istore_n (lv' := [.ref b, .int (nI its), .int (nI num), .int (nI 0), .long 0]) rfl rfl rfl ?_
  refine wq_iconst (v := nI 0) rfl (by decide) ?_
  refine wq_istore (lv' := [.ref b, .int (nI its), .int (nI num), .int (nI 0), .int (nI 0)]) rfl rfl rfl ?_
  exact l_S_goes hb hits hp hbr hk hro hQ 9 0 rfl
end
section
/-! the reference's story: reach, comes, parts -/
def ClR (be : Nat → Nat) (S : Nat) : Prop := ∀ p, p < 9 → S.testBit p = true → ∀ t, (be p).testBit t = true → S.testBit t = true
def unR (be : Nat → Nat) (was s : Nat) : Nat → Nat
  | 0 => s
  | i + 1 => unR be was s i ||| (if was.testBit i = true then be i else 0)
theorem unR_bit {be : Nat → Nat} {was s t : Nat} : ∀ n, (unR be was s n).testBit t = true ↔ s.testBit t = true ∨ ∃ p, p < n ∧ was.testBit p = true ∧ (be p).testBit t = true
  | 0 => ⟨Or.inl, fun q => q.elim id (fun ⟨p, h, _⟩ => absurd h (Nat.not_lt_zero p))⟩
  | i + 1 => by
    have ih := unR_bit (be := be) (was := was) (s := s) (t := t) i
    unfold unR
    rw [Nat.testBit_or, Bool.or_eq_true, ih]
    constructor
    · rintro ((h | ⟨p, h1, h2, h3⟩) | h)
      · exact Or.inl h
      · exact Or.inr ⟨p, by omega, h2, h3⟩
      · split at h
        next q => exact Or.inr ⟨i, by omega, q, h⟩
        next => simp at h
    · rintro (h | ⟨p, h1, h2, h3⟩)
      · exact Or.inl (Or.inl h)
      · by_cases e : p = i
        · subst e
          rw [if_pos h2]
          exact Or.inr h3
        · exact Or.inl (Or.inr ⟨p, by omega, h2, h3⟩)
theorem unR_lt {be : Nat → Nat} {was s : Nat} (hs : s < 512) (hbe : ∀ p, p < 9 → be p < 512) : ∀ n, n ≤ 9 → unR be was s n < 512
  | 0, _ => hs
  | i + 1, hi => by
    unfold unR
    refine or_lt (n := 9) (unR_lt hs hbe i (by omega)) ?_
    split
    · exact hbe i (by omega)
    · decide
theorem bits_eq {a b : Nat} (h : ∀ t, a.testBit t = true ↔ b.testBit t = true) : a = b := Nat.eq_of_testBit_eq fun t => by
  cases h1 : a.testBit t <;> cases h2 : b.testBit t
  · rfl
  · exact absurd ((h t).mpr h2) (by rw [h1]; decide)
  · exact absurd ((h t).mp h1) (by rw [h2]; decide)
  · rfl
theorem bits_le {a b : Nat} (h : ∀ t, a.testBit t = true → b.testBit t = true) : a ≤ b := by
  have e : a &&& b = a := bits_eq fun t => by
    rw [Nat.testBit_and, Bool.and_eq_true]
    exact ⟨fun q => q.1, fun q => ⟨q, h t q⟩⟩
  rw [← e]
  exact Nat.and_le_right
theorem l_S_reachI {d b : Nat} {pre : mH} {F : Nat → Nat} {G : Nat → Nat → Nat} {th pcs brs : Nat} {be po ro bg en : Nat → Nat} {kf : Nat → Nat → Nat} {Q : Option Value → mH → Prop} (hb : pre.length = b) {a was st0 : Nat} (hw : was < 512) (hs0 : st0 < 512) (hbe : ∀ p, p < 9 → be p < 512) (k : WP (Rn mprog (d + 1)) k_M_reach (some .int) Q 6 [.ref b, .int (nI a), .int (nI (unR be was st0 9)), .int (nI was), .int (nI 9)] [] (mS b pre F G th pcs brs be po ro kf bg en)) : ∀ (n i : Nat), i + n = 9 → WP (Rn mprog (d + 1)) k_M_reach (some .int) Q 16 [.ref b, .int (nI a), .int (nI (unR be was st0 i)), .int (nI was), .int (nI i)] [] (mS b pre F G th pcs brs be po ro kf bg en) := by
  intro n
  induction n with
  | zero =>
    intro i h1
    have hi : i = 9 := by omega
    subst hi
    refine wq_iload rfl rfl ?_
    refine wq_bipush (v := nI 9) rfl (by decide) ?_
    refine wq_ic_ge rfl (fun _ => ?_) (fun c => absurd c (by decide))
    refine wq_goto rfl ?_
    exact k
  | succ n ih =>
    intro i h1
    have hbi := hbe i (by omega)
    have hu := unR_lt (be := be) (was := was) hs0 hbe i (by omega)
    refine wq_iload rfl rfl ?_
    refine wq_bipush (v := nI 9) rfl (by decide) ?_
    refine wn_ic_ge rfl (by omega) (by omega) (fun c20 => absurd c20 (by omega)) (fun c20 => ?_)
    refine wq_iload_n rfl rfl ?_
    refine wq_iload_n rfl rfl ?_
    refine wq_iload rfl rfl ?_
    refine wq_stat (a := [.int (nI was), .int (nI i)]) (rest := [.int (nI (unR be was st0 i))]) rfl rfl rfl rfl rfl ?_
    refine r_M_has (by omega) (by omega) (fun c27 => ?_) (fun c27 => ?_)
    · skip
      show WP _ _ _ _ 30 [.ref b, .int (nI a), .int (nI (unR be was st0 i)), .int (nI was), .int (nI i)] [.int (nI 1), .int (nI (unR be was st0 i))] (mS b pre F G th pcs brs be po ro kf bg en)
      refine wq_if_eq rfl (fun c => absurd c (by decide)) (fun _ => ?_)
      refine wq_aload_n rfl rfl ?_
      refine wq_getfield (v := .ref (b + 5)) rfl (mS_o hb) rfl ?_
      refine wq_iload rfl rfl ?_
      refine wn_iaload (g := be) rfl (mS_a9 hb) (by omega) (by decide) ?_
      refine wq_goto rfl ?_
      refine wn_ior rfl ?_
      refine wq_istore_n (lv' := [.ref b, .int (nI a), .int (nI ((unR be was st0 i) ||| (be i))), .int (nI was), .int (nI i)]) rfl rfl rfl ?_
      refine wn_inc (lv' := [.ref b, .int (nI a), .int (nI ((unR be was st0 i) ||| (be i))), .int (nI was), .int (nI (i + 1))]) rfl rfl rfl ?_
      refine wq_goto rfl ?_
      have e : (unR be was st0 i) ||| (be i) = unR be was st0 (i + 1) := by
        show _ = unR be was st0 i ||| (if was.testBit i = true then be i else 0)
        rw [c27]
        rfl
      rw [e]
      exact ih (i + 1) (by omega)
    · skip
      show WP _ _ _ _ 30 [.ref b, .int (nI a), .int (nI (unR be was st0 i)), .int (nI was), .int (nI i)] [.int (nI 0), .int (nI (unR be was st0 i))] (mS b pre F G th pcs brs be po ro kf bg en)
      refine wq_if_eq rfl (fun _ => ?_) (fun c => absurd c (by decide))
      refine wq_iconst (v := nI 0) rfl (by decide) ?_
      refine wn_ior rfl ?_
      refine wq_istore_n (lv' := [.ref b, .int (nI a), .int (nI ((unR be was st0 i) ||| 0)), .int (nI was), .int (nI i)]) rfl rfl rfl ?_
      refine wn_inc (lv' := [.ref b, .int (nI a), .int (nI ((unR be was st0 i) ||| 0)), .int (nI was), .int (nI (i + 1))]) rfl rfl rfl ?_
      refine wq_goto rfl ?_
      have e : (unR be was st0 i) ||| 0 = unR be was st0 (i + 1) := by
        show _ = unR be was st0 i ||| (if was.testBit i = true then be i else 0)
        rw [c27]
        rfl
      rw [e]
      exact ih (i + 1) (by omega)
theorem l_S_reach {d b : Nat} {pre : mH} {F : Nat → Nat} {G : Nat → Nat → Nat} {th pcs brs : Nat} {be po ro bg en : Nat → Nat} {kf : Nat → Nat → Nat} {Q : Option Value → mH → Prop} (hb : pre.length = b) {a : Nat} (ha : a < 9) (hbe : ∀ p, p < 9 → be p < 512) (hQ : ∀ R, R < 512 → R.testBit a = true → ClR be R → (∀ S, S.testBit a = true → ClR be S → ∀ t, R.testBit t = true → S.testBit t = true) → Q (some (.int (nI R))) (mS b pre F G th pcs brs be po ro kf bg en)) : ∀ (n st0 was p0 : Nat), 2 * (512 - st0) + (if was = st0 then 0 else 1) < n → st0 < 512 → was < 512 → st0.testBit a = true → (∀ S, S.testBit a = true → ClR be S → ∀ t, st0.testBit t = true → S.testBit t = true) → (was = 0 ∨ st0 = unR be was was 9) → ∀ (pv : Value), pv.category = 1 ∨ pv = .long 0 → WP (Rn mprog (d + 1)) k_M_reach (some .int) Q 6 [.ref b, .int (nI a), .int (nI st0), .int (nI was), pv] [] (mS b pre F G th pcs brs be po ro kf bg en) := by
  intro n
  induction n with
  | zero => intro st0 was p0 h1; omega
  | succ n ih =>
    intro st0 was p0 hm hs0 hw hsa hmin hJ pv hpv
    refine wq_iload_n rfl rfl ?_
    refine wq_iload_n rfl rfl ?_
    refine wn_ic_eq rfl (by omega) (by omega) (fun c8 => ?_) (fun c8 => ?_)
    · refine wq_iload_n rfl rfl ?_
      refine wq_iret rfl trivial ?_
      refine hQ st0 hs0 hsa ?_ hmin
      rcases hJ with hJ | hJ
      · rw [← c8, hJ] at hsa
        simp at hsa
      · intro p hp h1 t h2
        rw [hJ, unR_bit]
        exact Or.inr ⟨p, hp, by rw [c8]; exact h1, h2⟩
    · refine wq_iload_n rfl rfl ?_
      refine wq_istore_n (lv' := [.ref b, .int (nI a), .int (nI st0), .int (nI st0), pv]) rfl rfl rfl ?_
      refine wq_iconst (v := nI 0) rfl (by decide) ?_
      refine wq_istore (lv' := [.ref b, .int (nI a), .int (nI st0), .int (nI st0), .int (nI 0)]) rfl rfl rfl ?_
      have hsup : ∀ t, st0.testBit t = true → (unR be st0 st0 9).testBit t = true := fun t q => (unR_bit 9).mpr (Or.inl q)
      have hle := bits_le hsup
      have hlt := unR_lt (be := be) (was := st0) hs0 hbe 9 (Nat.le_refl 9)
      refine l_S_reachI hb hs0 hs0 hbe ?_ 9 0 rfl
      refine ih (unR be st0 st0 9) st0 p0 ?_ hlt hs0 (hsup a hsa) ?_ (Or.inr rfl) _ (Or.inl rfl)
      · rw [if_neg c8] at hm
        split
        next => omega
        next q => omega
      · intro S h1 h2 t h3
        rcases (unR_bit 9).mp h3 with h4 | ⟨p, h4, h5, h6⟩
        · exact hmin S h1 h2 t h4
        · exact h2 p h4 (hmin S h1 h2 p h5) t h6
theorem r_S_reach {d b : Nat} {pre : mH} {F : Nat → Nat} {G : Nat → Nat → Nat} {th pcs brs : Nat} {be po ro bg en : Nat → Nat} {kf : Nat → Nat → Nat} {Q : Option Value → mH → Prop} (hb : pre.length = b) {a : Nat} (ha : a < 9) (hbe : ∀ p, p < 9 → be p < 512) (hQ : ∀ R, R < 512 → R.testBit a = true → ClR be R → (∀ S, S.testBit a = true → ClR be S → ∀ t, R.testBit t = true → S.testBit t = true) → Q (some (.int (nI R))) (mS b pre F G th pcs brs be po ro kf bg en)) : Rn mprog (d + 2) n_M_reach [.ref b, .int (nI a)] (mS b pre F G th pcs brs be po ro kf bg en) Q := by
  refine Rn.in rfl rfl rfl ?_
  show WP _ _ _ _ 0 [.ref b, .int (nI a), .long 0, .long 0, .long 0] [] (mS b pre F G th pcs brs be po ro kf bg en)
  refine wq_iconst (v := nI 1) rfl (by decide) ?_
  refine wq_iload_n rfl rfl ?_
  refine wn_ishl rfl (by omega) (Nat.lt_trans (sh_lt (n := 9) ha) (by decide)) ?_
  refine wq_istore_n (lv' := [.ref b, .int (nI a), .int (nI (1 <<< a)), .long 0, .long 0]) rfl rfl rfl ?_
  refine wq_iconst (v := nI 0) rfl (by decide) ?_
  refine wq_istore_n (lv' := [.ref b, .int (nI a), .int (nI (1 <<< a)), .int (nI 0), .long 0]) rfl rfl rfl ?_
  have hs9 := sh_lt (n := 9) ha
  have hsl := Nat.sub_le 512 (1 <<< a)
  refine l_S_reach hb ha hbe hQ 2000 (1 <<< a) 0 0 (by split <;> omega) hs9 (by decide) (by simp [sh_bit]) ?_ (Or.inl rfl) (.long 0) (Or.inr rfl)
  intro S h1 h2 t h3
  rw [sh_bit] at h3
  rw [of_decide_eq_true h3]
  exact h1
def kz (kf : Nat → Nat → Nat) (l i : Nat) : Nat → Nat → Nat := fun x y => if (x = l ∧ y < i) ∨ (y = l ∧ x < i) then 0 else kf x y
theorem kz_0 (kf : Nat → Nat → Nat) (l : Nat) : kz kf l 0 = kf := by
  funext x y
  unfold kz
  rw [if_neg (by omega)]
theorem kz_s (kf : Nat → Nat → Nat) (l i : Nat) : sK (kz kf l i) l i 0 = kz kf l (i + 1) := by
  funext x y
  unfold sK kz
  split <;> split <;> first | rfl | (split <;> first | rfl | omega) | omega
theorem l_S_comes {d b : Nat} {pre : mH} {F : Nat → Nat} {G : Nat → Nat → Nat} {th pcs brs : Nat} {be po ro bg en : Nat → Nat} {kf : Nat → Nat → Nat} {Q : Option Value → mH → Prop} (hb : pre.length = b) {a num l : Nat} (hl : l < 9) (hQ : Q none (mS b pre F G th pcs brs be po ro ((kz kf l 9)) bg en)) : ∀ (n i : Nat), i + n = 9 → WP (Rn mprog (d + 2)) k_M_comes none Q 53 [.ref b, .int (nI a), .int (nI num), .int (nI l), .int (nI i)] [] (mS b pre F G th pcs brs be po ro ((kz kf l i)) bg en) := by
  intro n
  induction n with
  | zero =>
    intro i h1
    have hi : i = 9 := by omega
    subst hi
    refine wq_iload rfl rfl ?_
    refine wq_bipush (v := nI 9) rfl (by decide) ?_
    refine wq_ic_ge rfl (fun _ => ?_) (fun c => absurd c (by decide))
    refine wq_vret rfl rfl ?_
    exact hQ
  | succ n ih =>
    intro i h1
    refine wq_iload rfl rfl ?_
    refine wq_bipush (v := nI 9) rfl (by decide) ?_
    refine wn_ic_ge rfl (by omega) (by omega) (fun c57 => absurd c57 (by omega)) (fun c57 => ?_)
    refine wq_aload_n rfl rfl ?_
    refine wq_iload_n rfl rfl ?_
    refine wq_iload rfl rfl ?_
    refine wq_iconst (v := nI 0) rfl (by decide) ?_
    refine wq_virt (b := b) (a := [.int (nI l), .int (nI i), .int (nI 0)]) (rest := []) rfl rfl rfl rfl rfl (mS_o hb) ?_
    refine r_S_makesKin hb (by omega) (by omega) ?_
    show WP _ _ _ _ 68 [.ref b, .int (nI a), .int (nI num), .int (nI l), .int (nI i)] [] (mS b pre F G th pcs brs be po ro (sK (kz kf l i) l i 0) bg en)
    refine wn_inc (lv' := [.ref b, .int (nI a), .int (nI num), .int (nI l), .int (nI (i + 1))]) rfl rfl rfl ?_
    refine wq_goto rfl ?_
    rw [kz_s]
    exact ih (i + 1) (by omega)
theorem r_S_comes {d b : Nat} {pre : mH} {F : Nat → Nat} {G : Nat → Nat → Nat} {th pcs brs : Nat} {be po ro bg en : Nat → Nat} {kf : Nat → Nat → Nat} {Q : Option Value → mH → Prop} (hb : pre.length = b) {a num : Nat} (ha : a < 9) (hth : th < 512) (hp : pcs < 512) (hfree : ∀ l, l ≤ 9 → pcs.testBit l = false → (∀ j, j < l → pcs.testBit j = true) → l < 9) (hQ : ∀ l, l < 9 → pcs.testBit l = false → Q none (mS b pre F G (th ||| 1 <<< a) (pcs ||| 1 <<< l) brs (uN' be a 0) (uN' po a l) (uN' ro l num) (kz kf l 9) bg en)) : Rn mprog (d + 3) n_M_comes [.ref b, .int (nI a), .int (nI num)] (mS b pre F G th pcs brs be po ro kf bg en) Q := by
  refine Rn.in rfl rfl rfl ?_
  show WP _ _ _ _ 0 [.ref b, .int (nI a), .int (nI num), .long 0, .long 0] [] (mS b pre F G th pcs brs be po ro kf bg en)
  refine wq_aload_n rfl rfl ?_
  refine wq_virt (b := b) (a := []) (rest := []) rfl rfl rfl rfl rfl (mS_o hb) ?_
  refine r_S_freePiece hb hp ?_
  intro l hl9 hlb hlj
  have hl : l < 9 := hfree l hl9 hlb hlj
  show WP _ _ _ _ 4 [.ref b, .int (nI a), .int (nI num), .long 0, .long 0] [.int (nI l)] (mS b pre F G th pcs brs be po ro kf bg en)
  refine wq_istore_n (lv' := [.ref b, .int (nI a), .int (nI num), .int (nI l), .long 0]) rfl rfl rfl ?_
  refine wq_aload_n rfl rfl ?_
  refine wq_dup rfl rfl ?_
  refine wq_getfield (v := .int (nI th)) rfl (mS_o hb) rfl ?_
  refine wq_iconst (v := nI 1) rfl (by decide) ?_
  refine wq_iload_n rfl rfl ?_
  refine wn_ishl rfl (by omega) (Nat.lt_trans (sh_lt (n := 9) ha) (by decide)) ?_
  refine wn_ior rfl ?_
  refine wq_putfield (h' := mS b pre F G (th ||| (1 <<< a)) pcs brs be po ro kf bg en) rfl (mS_o hb) rfl (mS_s8 hb) ?_
  refine wq_aload_n rfl rfl ?_
  refine wq_getfield (v := .ref (b + 5)) rfl (mS_o hb) rfl ?_
  refine wq_iload_n rfl rfl ?_
  refine wq_iconst (v := nI 0) rfl (by decide) ?_
  refine wn_iastore (g := be) (h' := mS b pre F G (th ||| (1 <<< a)) pcs brs (uN' be a 0) po ro kf bg en) rfl (mS_a9 hb) (by omega) (by decide) (mS_t9 hb) ?_
  refine wq_aload_n rfl rfl ?_
  refine wq_getfield (v := .ref (b + 6)) rfl (mS_o hb) rfl ?_
  refine wq_iload_n rfl rfl ?_
  refine wq_iload_n rfl rfl ?_
  refine wn_iastore (g := po) (h' := mS b pre F G (th ||| (1 <<< a)) pcs brs (uN' be a 0) (uN' po a l) ro kf bg en) rfl (mS_a10 hb) (by omega) (by decide) (mS_t10 hb) ?_
  refine wq_aload_n rfl rfl ?_
  refine wq_dup rfl rfl ?_
  refine wq_getfield (v := .int (nI pcs)) rfl (mS_o hb) rfl ?_
  refine wq_iconst (v := nI 1) rfl (by decide) ?_
  refine wq_iload_n rfl rfl ?_
  refine wn_ishl rfl (by omega) (Nat.lt_trans (sh_lt (n := 9) hl) (by decide)) ?_
  refine wn_ior rfl ?_
  refine wq_putfield (h' := mS b pre F G (th ||| (1 <<< a)) (pcs ||| (1 <<< l)) brs (uN' be a 0) (uN' po a l) ro kf bg en) rfl (mS_o hb) rfl (mS_s11 hb) ?_
  refine wq_aload_n rfl rfl ?_
  refine wq_getfield (v := .ref (b + 7)) rfl (mS_o hb) rfl ?_
  refine wq_iload_n rfl rfl ?_
  refine wq_iload_n rfl rfl ?_
  refine wn_iastore (g := ro) (h' := mS b pre F G (th ||| (1 <<< a)) (pcs ||| (1 <<< l)) brs (uN' be a 0) (uN' po a l) (uN' ro l num) kf bg en) rfl (mS_a12 hb) (by omega) (by decide) (mS_t12 hb) ?_
  refine wq_iconst (v := nI 0) rfl (by decide) ?_
  refine wq_istore (lv' := [.ref b, .int (nI a), .int (nI num), .int (nI l), .int (nI 0)]) rfl rfl rfl ?_
  have q := l_S_comes (d := d) (kf := kf) (a := a) (num := num) hb hl (hQ l hl hlb) 9 0 rfl
  rw [kz_0] at q
  exact q
def pw (i : Nat) (c : Nat → Bool) (v g : Nat → Nat) : Nat → Nat := fun q => if q < i ∧ c q = true then v q else g q
theorem pw_0 (c : Nat → Bool) (v g : Nat → Nat) : pw 0 c v g = g := by
  funext q
  unfold pw
  rw [if_neg (by omega)]
theorem pw_at (i : Nat) (c : Nat → Bool) (v g : Nat → Nat) : pw i c v g i = g i := by
  unfold pw
  rw [if_neg (by omega)]
theorem pw_s {i x : Nat} {c : Nat → Bool} {v g : Nat → Nat} (hx : x = if c i = true then v i else g i) : uN' (pw i c v g) i x = pw (i + 1) c v g := by
  funext q
  unfold uN' pw
  by_cases h : q = i
  · subst h
    rw [if_pos rfl, hx]
    by_cases h2 : c q = true
    · rw [if_pos h2, if_pos ⟨by omega, h2⟩]
    · rw [if_neg h2, if_neg (fun z => h2 z.2)]
  · rw [if_neg h]
    by_cases h2 : c q = true
    · by_cases h3 : q < i
      · rw [if_pos ⟨h3, h2⟩, if_pos ⟨by omega, h2⟩]
      · rw [if_neg (fun z => h3 z.1), if_neg (fun z => h3 (by omega))]
    · rw [if_neg (fun z => h2 z.2), if_neg (fun z => h2 z.2)]
def kp (kf : Nat → Nat → Nat) (was l i : Nat) : Nat → Nat → Nat := fun x y => if x = l ∧ y < i then (if y = l then 0 else kf was y) else if y = l ∧ x < i then kf was x else kf x y
theorem kp_0 (kf : Nat → Nat → Nat) (was l : Nat) : kp kf was l 0 = kf := by
  funext x y
  unfold kp
  rw [if_neg (by omega), if_neg (by omega)]
theorem kp_at {kf : Nat → Nat → Nat} {was l i : Nat} (h1 : was ≠ l) (h2 : i ≠ l) : kp kf was l i was i = kf was i := by
  unfold kp
  rw [if_neg (fun q => h1 q.1), if_neg (fun q => h2 q.1)]
theorem kp_s {kf : Nat → Nat → Nat} {was l i v : Nat} (hv : v = if i = l then 0 else kf was i) : sK (kp kf was l i) l i v = kp kf was l (i + 1) := by
  funext x y
  unfold sK kp
  by_cases hx : x = l
  · by_cases hy : y = i
    · rw [if_pos (c := (x = l ∧ y = i) ∨ (x = i ∧ y = l)) (Or.inl ⟨hx, hy⟩), if_pos (c := x = l ∧ y < i + 1) ⟨hx, by omega⟩, hv, hy]
    · rw [if_neg (c := (x = l ∧ y = i) ∨ (x = i ∧ y = l)) (by omega)]
      by_cases h4 : y < i
      · rw [if_pos (c := x = l ∧ y < i) ⟨hx, h4⟩, if_pos (c := x = l ∧ y < i + 1) ⟨hx, by omega⟩]
      · rw [if_neg (c := x = l ∧ y < i) (by omega), if_neg (c := x = l ∧ y < i + 1) (by omega), if_neg (c := y = l ∧ x < i) (by omega), if_neg (c := y = l ∧ x < i + 1) (by omega)]
  · rw [if_neg (c := x = l ∧ y < i) (fun q => hx q.1), if_neg (c := x = l ∧ y < i + 1) (fun q => hx q.1)]
    by_cases hy : y = l
    · by_cases hxi : x = i
      · rw [if_pos (c := (x = l ∧ y = i) ∨ (x = i ∧ y = l)) (Or.inr ⟨hxi, hy⟩), if_pos (c := y = l ∧ x < i + 1) ⟨hy, by omega⟩, hv, hxi, if_neg (by omega)]
      · rw [if_neg (c := (x = l ∧ y = i) ∨ (x = i ∧ y = l)) (by omega)]
        by_cases h4 : x < i
        · rw [if_pos (c := y = l ∧ x < i) ⟨hy, h4⟩, if_pos (c := y = l ∧ x < i + 1) ⟨hy, by omega⟩]
        · rw [if_neg (c := y = l ∧ x < i) (by omega), if_neg (c := y = l ∧ x < i + 1) (by omega)]
    · rw [if_neg (c := (x = l ∧ y = i) ∨ (x = i ∧ y = l)) (by omega), if_neg (c := y = l ∧ x < i) (fun q => hy q.1), if_neg (c := y = l ∧ x < i + 1) (fun q => hy q.1)]
theorem l_S_parts1 {d b : Nat} {pre : mH} {F : Nat → Nat} {G : Nat → Nat → Nat} {th pcs brs : Nat} {be po ro bg en : Nat → Nat} {kf : Nat → Nat → Nat} {Q : Option Value → mH → Prop} (hb : pre.length = b) {a bb num R was l : Nat} (hl : l < 9) (hw : was < 9) (hlw : was ≠ l) (k : WP (Rn mprog (d + 2)) k_M_parts none Q 129 [.ref b, .int (nI a), .int (nI bb), .int (nI num), .int (nI R), .int (nI was), .int (nI l), .int (nI 9)] [] (mS b pre F G th pcs brs be po ro (kp kf was l 9) bg en)) : ∀ (n i : Nat), i + n = 9 → WP (Rn mprog (d + 2)) k_M_parts none Q 89 [.ref b, .int (nI a), .int (nI bb), .int (nI num), .int (nI R), .int (nI was), .int (nI l), .int (nI i)] [] (mS b pre F G th pcs brs be po ro (kp kf was l i) bg en) := by
  intro n
  induction n with
  | zero =>
    intro i h1
    have hi : i = 9 := by omega
    subst hi
    refine wq_iload rfl rfl ?_
    refine wq_bipush (v := nI 9) rfl (by decide) ?_
    refine wq_ic_ge rfl (fun _ => ?_) (fun c => absurd c (by decide))
    exact k
  | succ n ih =>
    intro i h1
    refine wq_iload rfl rfl ?_
    refine wq_bipush (v := nI 9) rfl (by decide) ?_
    refine wn_ic_ge rfl (by omega) (by omega) (fun c93 => absurd c93 (by omega)) (fun c93 => ?_)
    refine wq_aload_n rfl rfl ?_
    refine wq_iload rfl rfl ?_
    refine wq_iload rfl rfl ?_
    refine wq_iload rfl rfl ?_
    refine wq_iload rfl rfl ?_
    refine wn_ic_ne rfl (by omega) (by omega) (fun c105 => ?_) (fun c105 => ?_)
    · skip
      refine wq_aload_n rfl rfl ?_
      refine wq_iload rfl rfl ?_
      refine wq_iload rfl rfl ?_
      refine wq_virt (b := b) (a := [.int (nI was), .int (nI i)]) (rest := [.int (nI i), .int (nI l), .ref b]) rfl rfl rfl rfl rfl (mS_o hb) ?_
      refine r_S_kinOf hb (by omega) (by omega) ?_
      show WP _ _ _ _ 120 [.ref b, .int (nI a), .int (nI bb), .int (nI num), .int (nI R), .int (nI was), .int (nI l), .int (nI i)] [.int (nI (kp kf was l i was i)), .int (nI i), .int (nI l), .ref b] (mS b pre F G th pcs brs be po ro (kp kf was l i) bg en)
      refine wq_virt (b := b) (a := [.int (nI l), .int (nI i), .int (nI (kp kf was l i was i))]) (rest := []) rfl rfl rfl rfl rfl (mS_o hb) ?_
      refine r_S_makesKin hb (by omega) (by omega) ?_
      show WP _ _ _ _ 123 [.ref b, .int (nI a), .int (nI bb), .int (nI num), .int (nI R), .int (nI was), .int (nI l), .int (nI i)] [] (mS b pre F G th pcs brs be po ro (sK (kp kf was l i) l i (kp kf was l i was i)) bg en)
      refine wn_inc (lv' := [.ref b, .int (nI a), .int (nI bb), .int (nI num), .int (nI R), .int (nI was), .int (nI l), .int (nI (i + 1))]) rfl rfl rfl ?_
      refine wq_goto rfl ?_
      rw [kp_s (by rw [if_neg c105, kp_at hlw c105])]
      exact ih (i + 1) (by omega)
    · skip
      refine wq_iconst (v := nI 0) rfl (by decide) ?_
      refine wq_goto rfl ?_
      refine wq_virt (b := b) (a := [.int (nI l), .int (nI i), .int (nI 0)]) (rest := []) rfl rfl rfl rfl rfl (mS_o hb) ?_
      refine r_S_makesKin hb (by omega) (by omega) ?_
      show WP _ _ _ _ 123 [.ref b, .int (nI a), .int (nI bb), .int (nI num), .int (nI R), .int (nI was), .int (nI l), .int (nI i)] [] (mS b pre F G th pcs brs be po ro (sK (kp kf was l i) l i 0) bg en)
      refine wn_inc (lv' := [.ref b, .int (nI a), .int (nI bb), .int (nI num), .int (nI R), .int (nI was), .int (nI l), .int (nI (i + 1))]) rfl rfl rfl ?_
      refine wq_goto rfl ?_
      rw [kp_s (by rw [if_pos c105])]
      exact ih (i + 1) (by omega)
theorem l_S_parts1' {d b : Nat} {pre : mH} {F : Nat → Nat} {G : Nat → Nat → Nat} {th pcs brs : Nat} {be po ro bg en : Nat → Nat} {kf : Nat → Nat → Nat} {Q : Option Value → mH → Prop} (hb : pre.length = b) {a bb num R was l : Nat} (hl : l < 9) (hw : was < 9) (hlw : was ≠ l) (k : WP (Rn mprog (d + 2)) k_M_parts none Q 129 [.ref b, .int (nI a), .int (nI bb), .int (nI num), .int (nI R), .int (nI was), .int (nI l), .int (nI 9)] [] (mS b pre F G th pcs brs be po ro (kp kf was l 9) bg en)) : WP (Rn mprog (d + 2)) k_M_parts none Q 89 [.ref b, .int (nI a), .int (nI bb), .int (nI num), .int (nI R), .int (nI was), .int (nI l), .int (nI 0)] [] (mS b pre F G th pcs brs be po ro kf bg en) := by
  have q := l_S_parts1 (d := d) hb hl hw hlw k 9 0 rfl
  rw [kp_0] at q
  exact q
theorem l_S_parts2 {d b : Nat} {pre : mH} {F : Nat → Nat} {G : Nat → Nat → Nat} {th pcs brs : Nat} {be po ro bg en : Nat → Nat} {kf : Nat → Nat → Nat} {Q : Option Value → mH → Prop} (hb : pre.length = b) {a bb num R was l : Nat} (hl : l < 9) (hR : R < 512) (hQ : Q none (mS b pre F G th pcs brs be (pw 9 (fun q => R.testBit q) (fun _ => l) po) ro kf bg en)) : ∀ (n i : Nat), i + n = 9 → WP (Rn mprog (d + 2)) k_M_parts none Q 141 [.ref b, .int (nI a), .int (nI bb), .int (nI num), .int (nI R), .int (nI was), .int (nI l), .int (nI i)] [] (mS b pre F G th pcs brs be (pw i (fun q => R.testBit q) (fun _ => l) po) ro kf bg en) := by
  intro n
  induction n with
  | zero =>
    intro i h1
    have hi : i = 9 := by omega
    subst hi
    refine wq_iload rfl rfl ?_
    refine wq_bipush (v := nI 9) rfl (by decide) ?_
    refine wq_ic_ge rfl (fun _ => ?_) (fun c => absurd c (by decide))
    refine wq_vret rfl rfl ?_
    exact hQ
  | succ n ih =>
    intro i h1
    refine wq_iload rfl rfl ?_
    refine wq_bipush (v := nI 9) rfl (by decide) ?_
    refine wn_ic_ge rfl (by omega) (by omega) (fun c145 => absurd c145 (by omega)) (fun c145 => ?_)
    refine wq_aload_n rfl rfl ?_
    refine wq_getfield (v := .ref (b + 6)) rfl (mS_o hb) rfl ?_
    refine wq_iload rfl rfl ?_
    refine wq_iload rfl rfl ?_
    refine wq_iload rfl rfl ?_
    refine wq_stat (a := [.int (nI R), .int (nI i)]) (rest := [.int (nI i), .ref (b + 6)]) rfl rfl rfl rfl rfl ?_
    refine r_M_has (by omega) (by omega) (fun c158 => ?_) (fun c158 => ?_)
    · skip
      show WP _ _ _ _ 161 [.ref b, .int (nI a), .int (nI bb), .int (nI num), .int (nI R), .int (nI was), .int (nI l), .int (nI i)] [.int (nI 1), .int (nI i), .ref (b + 6)] (mS b pre F G th pcs brs be (pw i (fun q => R.testBit q) (fun _ => l) po) ro kf bg en)
      refine wq_if_eq rfl (fun c => absurd c (by decide)) (fun _ => ?_)
      refine wq_iload rfl rfl ?_
      refine wq_goto rfl ?_
      refine wn_iastore (g := (pw i (fun q => R.testBit q) (fun _ => l) po)) (h' := mS b pre F G th pcs brs be (uN' ((pw i (fun q => R.testBit q) (fun _ => l) po)) i l) ro kf bg en) rfl (mS_a10 hb) (by omega) (by decide) (mS_t10 hb) ?_
      refine wn_inc (lv' := [.ref b, .int (nI a), .int (nI bb), .int (nI num), .int (nI R), .int (nI was), .int (nI l), .int (nI (i + 1))]) rfl rfl rfl ?_
      refine wq_goto rfl ?_
      rw [pw_s (by simp [c158, pw_at])]
      exact ih (i + 1) (by omega)
    · skip
      show WP _ _ _ _ 161 [.ref b, .int (nI a), .int (nI bb), .int (nI num), .int (nI R), .int (nI was), .int (nI l), .int (nI i)] [.int (nI 0), .int (nI i), .ref (b + 6)] (mS b pre F G th pcs brs be (pw i (fun q => R.testBit q) (fun _ => l) po) ro kf bg en)
      refine wq_if_eq rfl (fun _ => ?_) (fun c => absurd c (by decide))
      refine wq_aload_n rfl rfl ?_
      refine wq_getfield (v := .ref (b + 6)) rfl (mS_o hb) rfl ?_
      refine wq_iload rfl rfl ?_
      refine wn_iaload (g := (pw i (fun q => R.testBit q) (fun _ => l) po)) rfl (mS_a10 hb) (by omega) (by decide) ?_
      refine wn_iastore (g := (pw i (fun q => R.testBit q) (fun _ => l) po)) (h' := mS b pre F G th pcs brs be (uN' ((pw i (fun q => R.testBit q) (fun _ => l) po)) i (((pw i (fun q => R.testBit q) (fun _ => l) po)) i)) ro kf bg en) rfl (mS_a10 hb) (by omega) (by decide) (mS_t10 hb) ?_
      refine wn_inc (lv' := [.ref b, .int (nI a), .int (nI bb), .int (nI num), .int (nI R), .int (nI was), .int (nI l), .int (nI (i + 1))]) rfl rfl rfl ?_
      refine wq_goto rfl ?_
      rw [pw_s (by simp [c158, pw_at])]
      exact ih (i + 1) (by omega)
def beP (be : Nat → Nat) (a bb : Nat) : Nat → Nat := uN' (uN' be a (nd (be a) (1 <<< bb))) bb (nd (uN' be a (nd (be a) (1 <<< bb)) bb) (1 <<< a))
theorem r_S_parts {d b : Nat} {pre : mH} {F : Nat → Nat} {G : Nat → Nat → Nat} {th pcs brs : Nat} {be po ro bg en : Nat → Nat} {kf : Nat → Nat → Nat} {Q : Option Value → mH → Prop} (hb : pre.length = b) {a bb num : Nat} (ha : a < 9) (hbb : bb < 9) (hab : a ≠ bb) (hbe : ∀ p, p < 9 → be p < 512) (hpo : po a < 9) (hpa : pcs.testBit (po a) = true) (hro : ro (po a) < 1000) (hp : pcs < 512) (hfree : ∀ l, l ≤ 9 → pcs.testBit l = false → (∀ j, j < l → pcs.testBit j = true) → l < 9) (hQ1 : ∀ R, R < 512 → R.testBit bb = true → ClR (beP be a bb) R → (∀ S, S.testBit bb = true → ClR (beP be a bb) S → ∀ t, R.testBit t = true → S.testBit t = true) → R.testBit a = true → Q none (mS b pre F G th pcs brs (beP be a bb) po ro kf bg en)) (hQ2 : ∀ R l, R < 512 → R.testBit bb = true → ClR (beP be a bb) R → (∀ S, S.testBit bb = true → ClR (beP be a bb) S → ∀ t, R.testBit t = true → S.testBit t = true) → R.testBit a = false → l < 9 → pcs.testBit l = false → Q none (mS b pre F G th (pcs ||| 1 <<< l) brs (beP be a bb) (pw 9 (fun q => R.testBit q) (fun _ => l) po) (uN' ro l (ro (po a))) (sK (kp kf (po a) l 9) l (po a) num) bg en)) : Rn mprog (d + 3) n_M_parts [.ref b, .int (nI a), .int (nI bb), .int (nI num)] (mS b pre F G th pcs brs be po ro kf bg en) Q := by
  refine Rn.in rfl rfl rfl ?_
  show WP _ _ _ _ 0 [.ref b, .int (nI a), .int (nI bb), .int (nI num), .long 0, .long 0, .long 0, .long 0] [] (mS b pre F G th pcs brs be po ro kf bg en)
  have hsa := Nat.lt_trans (sh_lt (n := 9) ha) (show 2 ^ 9 < 2 ^ 32 by decide)
  have hsb := Nat.lt_trans (sh_lt (n := 9) hbb) (show 2 ^ 9 < 2 ^ 32 by decide)
  have hbe2 : ∀ p, p < 9 → (beP be a bb) p < 512 := by
    intro p hp
    have h1 : ∀ p, p < 9 → uN' be a (nd (be a) (1 <<< bb)) p < 512 := by
      intro p hp
      unfold uN'
      split
      · exact nd_lt (n := 9) (hbe a ha)
      · exact hbe p hp
    show uN' (uN' be a (nd (be a) (1 <<< bb))) bb (nd (uN' be a (nd (be a) (1 <<< bb)) bb) (1 <<< a)) p < 512
    by_cases e : p = bb
    · rw [e, uN_s]
      exact nd_lt (n := 9) (h1 bb hbb)
    · rw [uN_n e]
      exact h1 p hp
  refine wq_aload_n rfl rfl ?_
  refine wq_getfield (v := .ref (b + 5)) rfl (mS_o hb) rfl ?_
  refine wq_iload_n rfl rfl ?_
  refine wq_dup2 rfl rfl rfl ?_
  refine wn_iaload (g := be) rfl (mS_a9 hb) (by omega) (by decide) ?_
  refine wq_iconst (v := nI 1) rfl (by decide) ?_
  refine wq_iload_n rfl rfl ?_
  refine wn_ishl rfl (by omega) hsb ?_
  refine wq_iconst (v := (-1)) rfl (by decide) ?_
  refine wq_ixor (v := (nI (1 <<< bb) ^^^ (-1))) rfl rfl ?_
  refine wn_andn rfl ?_
  refine wn_iastore (g := be) (h' := mS b pre F G th pcs brs (uN' be a (nd (be a) (1 <<< bb))) po ro kf bg en) rfl (mS_a9 hb) (by omega) (by decide) (mS_t9 hb) ?_
  refine wq_aload_n rfl rfl ?_
  refine wq_getfield (v := .ref (b + 5)) rfl (mS_o hb) rfl ?_
  refine wq_iload_n rfl rfl ?_
  refine wq_dup2 rfl rfl rfl ?_
  refine wn_iaload (g := (uN' be a (nd (be a) (1 <<< bb)))) rfl (mS_a9 hb) (by omega) (by decide) ?_
  refine wq_iconst (v := nI 1) rfl (by decide) ?_
  refine wq_iload_n rfl rfl ?_
  refine wn_ishl rfl (by omega) hsa ?_
  refine wq_iconst (v := (-1)) rfl (by decide) ?_
  refine wq_ixor (v := (nI (1 <<< a) ^^^ (-1))) rfl rfl ?_
  refine wn_andn rfl ?_
  refine wn_iastore (g := (uN' be a (nd (be a) (1 <<< bb)))) (h' := mS b pre F G th pcs brs (uN' ((uN' be a (nd (be a) (1 <<< bb)))) bb (nd (((uN' be a (nd (be a) (1 <<< bb)))) bb) (1 <<< a))) po ro kf bg en) rfl (mS_a9 hb) (by omega) (by decide) (mS_t9 hb) ?_
  refine wq_aload_n rfl rfl ?_
  refine wq_iload_n rfl rfl ?_
  refine wq_virt (b := b) (a := [.int (nI bb)]) (rest := []) rfl rfl rfl rfl rfl (mS_o hb) ?_
  refine r_S_reach hb (by omega) hbe2 ?_
  intro R hR hRb hRc hRm
  show WP _ _ _ _ 33 [.ref b, .int (nI a), .int (nI bb), .int (nI num), .long 0, .long 0, .long 0, .long 0] [.int (nI R)] (mS b pre F G th pcs brs (uN' ((uN' be a (nd (be a) (1 <<< bb)))) bb (nd (((uN' be a (nd (be a) (1 <<< bb)))) bb) (1 <<< a))) po ro kf bg en)
  refine wq_istore (lv' := [.ref b, .int (nI a), .int (nI bb), .int (nI num), .int (nI R), .long 0, .long 0, .long 0]) rfl rfl rfl ?_
  refine wq_iload rfl rfl ?_
  refine wq_iload_n rfl rfl ?_
  refine wq_stat (a := [.int (nI R), .int (nI a)]) (rest := []) rfl rfl rfl rfl rfl ?_
  refine r_M_has (by omega) (by omega) (fun c38 => ?_) (fun c38 => ?_)
  · skip
    show WP _ _ _ _ 41 [.ref b, .int (nI a), .int (nI bb), .int (nI num), .int (nI R), .long 0, .long 0, .long 0] [.int (nI 1)] (mS b pre F G th pcs brs (uN' ((uN' be a (nd (be a) (1 <<< bb)))) bb (nd (((uN' be a (nd (be a) (1 <<< bb)))) bb) (1 <<< a))) po ro kf bg en)
    refine wq_if_eq rfl (fun c => absurd c (by decide)) (fun _ => ?_)
    refine wq_vret rfl rfl ?_
    exact hQ1 R hR hRb hRc hRm c38
  · skip
    show WP _ _ _ _ 41 [.ref b, .int (nI a), .int (nI bb), .int (nI num), .int (nI R), .long 0, .long 0, .long 0] [.int (nI 0)] (mS b pre F G th pcs brs (uN' ((uN' be a (nd (be a) (1 <<< bb)))) bb (nd (((uN' be a (nd (be a) (1 <<< bb)))) bb) (1 <<< a))) po ro kf bg en)
    refine wq_if_eq rfl (fun _ => ?_) (fun c => absurd c (by decide))
    refine wq_aload_n rfl rfl ?_
    refine wq_getfield (v := .ref (b + 6)) rfl (mS_o hb) rfl ?_
    refine wq_iload_n rfl rfl ?_
    refine wn_iaload (g := po) rfl (mS_a10 hb) (by omega) (by decide) ?_
    refine wq_istore (lv' := [.ref b, .int (nI a), .int (nI bb), .int (nI num), .int (nI R), .int (nI (po a)), .long 0, .long 0]) rfl rfl rfl ?_
    refine wq_aload_n rfl rfl ?_
    refine wq_virt (b := b) (a := []) (rest := []) rfl rfl rfl rfl rfl (mS_o hb) ?_
    refine r_S_freePiece hb hp ?_
    intro l hl9 hlb hlj
    have hl : l < 9 := hfree l hl9 hlb hlj
    show WP _ _ _ _ 57 [.ref b, .int (nI a), .int (nI bb), .int (nI num), .int (nI R), .int (nI (po a)), .long 0, .long 0] [.int (nI l)] (mS b pre F G th pcs brs (uN' ((uN' be a (nd (be a) (1 <<< bb)))) bb (nd (((uN' be a (nd (be a) (1 <<< bb)))) bb) (1 <<< a))) po ro kf bg en)
    refine wq_istore (lv' := [.ref b, .int (nI a), .int (nI bb), .int (nI num), .int (nI R), .int (nI (po a)), .int (nI l), .long 0]) rfl rfl rfl ?_
    refine wq_aload_n rfl rfl ?_
    refine wq_dup rfl rfl ?_
    refine wq_getfield (v := .int (nI pcs)) rfl (mS_o hb) rfl ?_
    refine wq_iconst (v := nI 1) rfl (by decide) ?_
    refine wq_iload rfl rfl ?_
    refine wn_ishl rfl (by omega) (Nat.lt_trans (sh_lt (n := 9) hl) (by decide)) ?_
    refine wn_ior rfl ?_
    refine wq_putfield (h' := mS b pre F G th (pcs ||| (1 <<< l)) brs (uN' ((uN' be a (nd (be a) (1 <<< bb)))) bb (nd (((uN' be a (nd (be a) (1 <<< bb)))) bb) (1 <<< a))) po ro kf bg en) rfl (mS_o hb) rfl (mS_s11 hb) ?_
    refine wq_aload_n rfl rfl ?_
    refine wq_getfield (v := .ref (b + 7)) rfl (mS_o hb) rfl ?_
    refine wq_iload rfl rfl ?_
    refine wq_aload_n rfl rfl ?_
    refine wq_getfield (v := .ref (b + 7)) rfl (mS_o hb) rfl ?_
    refine wq_iload rfl rfl ?_
    refine wn_iaload (g := ro) rfl (mS_a12 hb) (by omega) (by decide) ?_
    refine wn_iastore (g := ro) (h' := mS b pre F G th (pcs ||| (1 <<< l)) brs (uN' ((uN' be a (nd (be a) (1 <<< bb)))) bb (nd (((uN' be a (nd (be a) (1 <<< bb)))) bb) (1 <<< a))) po (uN' ro l (ro (po a))) kf bg en) rfl (mS_a12 hb) (by omega) (by decide) (mS_t12 hb) ?_
    refine wq_iconst (v := nI 0) rfl (by decide) ?_
    refine wq_istore (lv' := [.ref b, .int (nI a), .int (nI bb), .int (nI num), .int (nI R), .int (nI (po a)), .int (nI l), .int (nI 0)]) rfl rfl rfl ?_
    have hwl : po a ≠ l := fun q => by rw [q, hlb] at hpa; cases hpa
    refine l_S_parts1' (kf := kf) hb hl hpo hwl ?_
    refine wq_aload_n rfl rfl ?_
    refine wq_iload rfl rfl ?_
    refine wq_iload rfl rfl ?_
    refine wq_iload_n rfl rfl ?_
    refine wq_virt (b := b) (a := [.int (nI l), .int (nI (po a)), .int (nI num)]) (rest := []) rfl rfl rfl rfl rfl (mS_o hb) ?_
    refine r_S_makesKin hb (by omega) (by omega) ?_
    show WP _ _ _ _ 138 [.ref b, .int (nI a), .int (nI bb), .int (nI num), .int (nI R), .int (nI (po a)), .int (nI l), .int (nI 9)] [] (mS b pre F G th (pcs ||| (1 <<< l)) brs (uN' ((uN' be a (nd (be a) (1 <<< bb)))) bb (nd (((uN' be a (nd (be a) (1 <<< bb)))) bb) (1 <<< a))) po (uN' ro l (ro (po a))) (sK (kp kf (po a) l 9) l (po a) num) bg en)
    refine wq_iconst (v := nI 0) rfl (by decide) ?_
    refine wq_istore (lv' := [.ref b, .int (nI a), .int (nI bb), .int (nI num), .int (nI R), .int (nI (po a)), .int (nI l), .int (nI 0)]) rfl rfl rfl ?_
    have q := l_S_parts2 (d := d) (kf := sK (kp kf (po a) l 9) l (po a) num) (po := po) (R := R) (a := a) (bb := bb) (num := num) (was := po a) hb hl hR (hQ2 R l hR hRb hRc hRm c38 hl hlb) 9 0 rfl
    rw [pw_0] at q
    exact q
end
section
/-! the reference's story: bindsNear, joins -/
def bA (pcs : Nat) (kf : Nat → Nat → Nat) (one oth c x : Nat) : Bool := pcs.testBit x && !Nat.beq x one && !Nat.beq x oth && Nat.blt c (kf one x)
def bB (pcs : Nat) (kf : Nat → Nat → Nat) (one oth c x : Nat) : Bool := pcs.testBit x && !Nat.beq x one && !Nat.beq x oth && Nat.blt c (kf oth x)
theorem nbeq {a b : Nat} : (!Nat.beq a b) = true ↔ a ≠ b := by
  constructor
  · intro h e
    subst e
    simp at h
  · intro h
    cases q : Nat.beq a b
    · rfl
    · exact absurd (Nat.eq_of_beq_eq_true q) h
theorem nblt {a b : Nat} : Nat.blt a b = true ↔ a < b := by rw [Nat.blt_eq]
theorem bA_iff {pcs one oth c x : Nat} {kf : Nat → Nat → Nat} : bA pcs kf one oth c x = true ↔ pcs.testBit x = true ∧ x ≠ one ∧ x ≠ oth ∧ c < kf one x := by
  unfold bA
  rw [Bool.and_eq_true, Bool.and_eq_true, Bool.and_eq_true, nbeq, nbeq, nblt, and_assoc, and_assoc]
theorem bB_iff {pcs one oth c x : Nat} {kf : Nat → Nat → Nat} : bB pcs kf one oth c x = true ↔ pcs.testBit x = true ∧ x ≠ one ∧ x ≠ oth ∧ c < kf oth x := by
  unfold bB
  rw [Bool.and_eq_true, Bool.and_eq_true, Bool.and_eq_true, nbeq, nbeq, nblt, and_assoc, and_assoc]
def kb (pcs : Nat) (kf : Nat → Nat → Nat) (one oth c i j : Nat) : Nat → Nat → Nat := fun x y =>
  if bA pcs kf one oth c x = true ∧ bB pcs kf one oth c y = true ∧ (x < i ∨ (x = i ∧ y < j)) then min (kf one x) (kf oth y)
  else if bA pcs kf one oth c y = true ∧ bB pcs kf one oth c x = true ∧ (y < i ∨ (y = i ∧ x < j)) then min (kf one y) (kf oth x) else kf x y
theorem kb_0 (pcs : Nat) (kf : Nat → Nat → Nat) (one oth c : Nat) : kb pcs kf one oth c 0 0 = kf := by
  funext x y
  unfold kb
  rw [if_neg (by omega), if_neg (by omega)]
theorem kb_one {pcs : Nat} {kf : Nat → Nat → Nat} {one oth c i j x : Nat} : kb pcs kf one oth c i j one x = kf one x := by
  unfold kb
  rw [if_neg (fun q => (bA_iff.mp q.1).2.1 rfl), if_neg (fun q => (bB_iff.mp q.2.1).2.1 rfl)]
theorem kb_oth {pcs : Nat} {kf : Nat → Nat → Nat} {one oth c i j x : Nat} : kb pcs kf one oth c i j oth x = kf oth x := by
  unfold kb
  rw [if_neg (fun q => (bA_iff.mp q.1).2.2.1 rfl), if_neg (fun q => (bB_iff.mp q.2.1).2.2.1 rfl)]
theorem kb_t {pcs : Nat} {kf : Nat → Nat → Nat} {one oth c i j v : Nat} (hex : ∀ x, bA pcs kf one oth c x = true → bB pcs kf one oth c x = true → False) (hA : bA pcs kf one oth c i = true) (hB : bB pcs kf one oth c j = true) (hv : v = min (kf one i) (kf oth j)) : sK (kb pcs kf one oth c i j) i j v = kb pcs kf one oth c i (j + 1) := by
  funext x y
  unfold sK kb
  by_cases h1 : x = i ∧ y = j
  · obtain ⟨rfl, rfl⟩ := h1
    rw [if_pos (Or.inl ⟨rfl, rfl⟩), if_pos ⟨hA, hB, by omega⟩, hv]
  · by_cases h2 : x = j ∧ y = i
    · obtain ⟨rfl, rfl⟩ := h2
      rw [if_pos (Or.inr ⟨rfl, rfl⟩), if_neg (c := bA pcs kf one oth c x = true ∧ _) (fun q => hex x q.1 hB), if_pos ⟨hA, hB, by omega⟩, hv]
    · rw [if_neg (by omega)]
      have e1 : (x < i ∨ (x = i ∧ y < j)) ↔ (x < i ∨ (x = i ∧ y < j + 1)) := by omega
      have e2 : (y < i ∨ (y = i ∧ x < j)) ↔ (y < i ∨ (y = i ∧ x < j + 1)) := by omega
      simp only [e1, e2]
theorem kb_f {pcs : Nat} {kf : Nat → Nat → Nat} {one oth c i j : Nat} (hn : bA pcs kf one oth c i = true → bB pcs kf one oth c j = true → False) : kb pcs kf one oth c i j = kb pcs kf one oth c i (j + 1) := by
  funext x y
  unfold kb
  have e1 : (bA pcs kf one oth c x = true ∧ bB pcs kf one oth c y = true ∧ (x < i ∨ (x = i ∧ y < j))) ↔ (bA pcs kf one oth c x = true ∧ bB pcs kf one oth c y = true ∧ (x < i ∨ (x = i ∧ y < j + 1))) := by
    constructor
    · exact fun q => ⟨q.1, q.2.1, by omega⟩
    · intro q
      refine ⟨q.1, q.2.1, ?_⟩
      by_cases h : x = i ∧ y = j
      · obtain ⟨rfl, rfl⟩ := h
        exact (hn q.1 q.2.1).elim
      · omega
  have e2 : (bA pcs kf one oth c y = true ∧ bB pcs kf one oth c x = true ∧ (y < i ∨ (y = i ∧ x < j))) ↔ (bA pcs kf one oth c y = true ∧ bB pcs kf one oth c x = true ∧ (y < i ∨ (y = i ∧ x < j + 1))) := by
    constructor
    · exact fun q => ⟨q.1, q.2.1, by omega⟩
    · intro q
      refine ⟨q.1, q.2.1, ?_⟩
      by_cases h : y = i ∧ x = j
      · obtain ⟨rfl, rfl⟩ := h
        exact (hn q.1 q.2.1).elim
      · omega
  simp only [e1, e2]
theorem kb_row {pcs : Nat} {kf : Nat → Nat → Nat} {one oth c i : Nat} (hp : pcs < 512) : kb pcs kf one oth c i 9 = kb pcs kf one oth c (i + 1) 0 := by
  have hB : ∀ y, bB pcs kf one oth c y = true → y < 9 := fun y q => by
    rcases Nat.lt_or_ge y 9 with h | h
    · exact h
    · have h1 := (bB_iff.mp q).1
      rw [bit_lt (n := 9) hp h] at h1
      cases h1
  funext x y
  unfold kb
  have e1 : (bA pcs kf one oth c x = true ∧ bB pcs kf one oth c y = true ∧ (x < i ∨ (x = i ∧ y < 9))) ↔ (bA pcs kf one oth c x = true ∧ bB pcs kf one oth c y = true ∧ (x < i + 1 ∨ (x = i + 1 ∧ y < 0))) := by
    constructor
    · exact fun q => ⟨q.1, q.2.1, by omega⟩
    · exact fun q => ⟨q.1, q.2.1, by have := hB y q.2.1; omega⟩
  have e2 : (bA pcs kf one oth c y = true ∧ bB pcs kf one oth c x = true ∧ (y < i ∨ (y = i ∧ x < 9))) ↔ (bA pcs kf one oth c y = true ∧ bB pcs kf one oth c x = true ∧ (y < i + 1 ∨ (y = i + 1 ∧ x < 0))) := by
    constructor
    · exact fun q => ⟨q.1, q.2.1, by omega⟩
    · exact fun q => ⟨q.1, q.2.1, by have := hB x q.2.1; omega⟩
  simp only [e1, e2]
theorem l_S_binds1 {d b : Nat} {pre : mH} {F : Nat → Nat} {G : Nat → Nat → Nat} {th pcs brs : Nat} {be po ro bg en : Nat → Nat} {kf : Nat → Nat → Nat} {Q : Option Value → mH → Prop} (hb : pre.length = b) {one oth c : Nat} (h1 : one < 9) (h2 : oth < 9) (hc : c < 1000) (hp : pcs < 512) (hk : ∀ p q, p < 9 → q < 9 → kf p q < 1000) (hex : ∀ x, bA pcs kf one oth c x = true → bB pcs kf one oth c x = true → False) {i : Nat} (hi : i < 9) (k : ∀ av : Value, WP (Rn mprog (d + 1)) k_M_bindsNear none Q 157 [.ref b, .int (nI one), .int (nI oth), .int (nI c), .int (nI i), .int (nI 9), av] [] (mS b pre F G th pcs brs be po ro (kb pcs kf one oth c i 9) bg en)) : ∀ (n j : Nat) (av : Value), j + n = 9 → True = True → WP (Rn mprog (d + 1)) k_M_bindsNear none Q 13 [.ref b, .int (nI one), .int (nI oth), .int (nI c), .int (nI i), .int (nI j), av] [] (mS b pre F G th pcs brs be po ro (kb pcs kf one oth c i j) bg en) := by
  intro n
  induction n with
  | zero =>
    intro j av hj _
    have hj9 : j = 9 := by omega
    subst hj9
    refine wq_iload rfl rfl ?_
    refine wq_bipush (v := nI 9) rfl (by decide) ?_
    refine wq_ic_ge rfl (fun _ => ?_) (fun c => absurd c (by decide))
    exact k _
  | succ n ih =>
    intro j av hj _
    have hk1 := hk one i h1 hi
    have hk2 := hk oth j h2 (by omega)
    refine wq_iload rfl rfl ?_
    refine wq_bipush (v := nI 9) rfl (by decide) ?_
    refine wn_ic_ge rfl (by omega) (by omega) (fun c17 => absurd c17 (by omega)) (fun c17 => ?_)
    refine wq_aload_n rfl rfl ?_
    refine wq_getfield (v := .int (nI pcs)) rfl (mS_o hb) rfl ?_
    refine wq_iload rfl rfl ?_
    refine wq_stat (a := [.int (nI pcs), .int (nI i)]) (rest := []) rfl rfl rfl rfl rfl ?_
    refine r_M_has (by omega) (by omega) (fun c26 => ?_) (fun c26 => ?_)
    · skip
      show WP _ _ _ _ 29 [.ref b, .int (nI one), .int (nI oth), .int (nI c), .int (nI i), .int (nI j), av] [.int (nI 1)] (mS b pre F G th pcs brs be po ro (kb pcs kf one oth c i j) bg en)
      refine wq_if_eq rfl (fun c => absurd c (by decide)) (fun _ => ?_)
      refine wq_aload_n rfl rfl ?_
      refine wq_getfield (v := .int (nI pcs)) rfl (mS_o hb) rfl ?_
      refine wq_iload rfl rfl ?_
      refine wq_stat (a := [.int (nI pcs), .int (nI j)]) (rest := []) rfl rfl rfl rfl rfl ?_
      refine r_M_has (by omega) (by omega) (fun c38 => ?_) (fun c38 => ?_)
      · skip
        show WP _ _ _ _ 41 [.ref b, .int (nI one), .int (nI oth), .int (nI c), .int (nI i), .int (nI j), av] [.int (nI 1)] (mS b pre F G th pcs brs be po ro (kb pcs kf one oth c i j) bg en)
        refine wq_if_eq rfl (fun c => absurd c (by decide)) (fun _ => ?_)
        refine wq_iload rfl rfl ?_
        refine wq_iload rfl rfl ?_
        refine wn_ic_eq rfl (by omega) (by omega) (fun c48 => ?_) (fun c48 => ?_)
        · skip
          refine wq_iconst (v := nI 0) rfl (by decide) ?_
          refine wq_istore (lv' := [.ref b, .int (nI one), .int (nI oth), .int (nI c), .int (nI i), .int (nI j), .int (nI 0)]) rfl rfl rfl ?_
          refine wq_iload rfl rfl ?_
          refine wq_if_eq rfl (fun _ => ?_) (fun c => absurd c (by decide))
          refine wn_inc (lv' := [.ref b, .int (nI one), .int (nI oth), .int (nI c), .int (nI i), .int (nI (j + 1)), .int (nI 0)]) rfl rfl rfl ?_
          refine wq_goto rfl ?_
          rw [kb_f (i := i) (j := j) (fun hA hB => by exact hex i hA (by rw [c48]; exact hB))]
          exact ih (j + 1) _ (by omega) (by rfl)
        · skip
          refine wq_iload rfl rfl ?_
          refine wq_iload_n rfl rfl ?_
          refine wn_ic_eq rfl (by omega) (by omega) (fun c54 => ?_) (fun c54 => ?_)
          · skip
            refine wq_iconst (v := nI 0) rfl (by decide) ?_
            refine wq_istore (lv' := [.ref b, .int (nI one), .int (nI oth), .int (nI c), .int (nI i), .int (nI j), .int (nI 0)]) rfl rfl rfl ?_
            refine wq_iload rfl rfl ?_
            refine wq_if_eq rfl (fun _ => ?_) (fun c => absurd c (by decide))
            refine wn_inc (lv' := [.ref b, .int (nI one), .int (nI oth), .int (nI c), .int (nI i), .int (nI (j + 1)), .int (nI 0)]) rfl rfl rfl ?_
            refine wq_goto rfl ?_
            rw [kb_f (i := i) (j := j) (fun hA hB => by exact (bA_iff.mp hA).2.1 c54)]
            exact ih (j + 1) _ (by omega) (by rfl)
          · skip
            refine wq_iload rfl rfl ?_
            refine wq_iload_n rfl rfl ?_
            refine wn_ic_eq rfl (by omega) (by omega) (fun c60 => ?_) (fun c60 => ?_)
            · skip
              refine wq_iconst (v := nI 0) rfl (by decide) ?_
              refine wq_istore (lv' := [.ref b, .int (nI one), .int (nI oth), .int (nI c), .int (nI i), .int (nI j), .int (nI 0)]) rfl rfl rfl ?_
              refine wq_iload rfl rfl ?_
              refine wq_if_eq rfl (fun _ => ?_) (fun c => absurd c (by decide))
              refine wn_inc (lv' := [.ref b, .int (nI one), .int (nI oth), .int (nI c), .int (nI i), .int (nI (j + 1)), .int (nI 0)]) rfl rfl rfl ?_
              refine wq_goto rfl ?_
              rw [kb_f (i := i) (j := j) (fun hA hB => by exact (bA_iff.mp hA).2.2.1 c60)]
              exact ih (j + 1) _ (by omega) (by rfl)
            · skip
              refine wq_iload rfl rfl ?_
              refine wq_iload_n rfl rfl ?_
              refine wn_ic_eq rfl (by omega) (by omega) (fun c66 => ?_) (fun c66 => ?_)
              · skip
                refine wq_iconst (v := nI 0) rfl (by decide) ?_
                refine wq_istore (lv' := [.ref b, .int (nI one), .int (nI oth), .int (nI c), .int (nI i), .int (nI j), .int (nI 0)]) rfl rfl rfl ?_
                refine wq_iload rfl rfl ?_
                refine wq_if_eq rfl (fun _ => ?_) (fun c => absurd c (by decide))
                refine wn_inc (lv' := [.ref b, .int (nI one), .int (nI oth), .int (nI c), .int (nI i), .int (nI (j + 1)), .int (nI 0)]) rfl rfl rfl ?_
                refine wq_goto rfl ?_
                rw [kb_f (i := i) (j := j) (fun hA hB => by exact (bB_iff.mp hB).2.1 c66)]
                exact ih (j + 1) _ (by omega) (by rfl)
              · skip
                refine wq_iload rfl rfl ?_
                refine wq_iload_n rfl rfl ?_
                refine wn_ic_eq rfl (by omega) (by omega) (fun c72 => ?_) (fun c72 => ?_)
                · skip
                  refine wq_iconst (v := nI 0) rfl (by decide) ?_
                  refine wq_istore (lv' := [.ref b, .int (nI one), .int (nI oth), .int (nI c), .int (nI i), .int (nI j), .int (nI 0)]) rfl rfl rfl ?_
                  refine wq_iload rfl rfl ?_
                  refine wq_if_eq rfl (fun _ => ?_) (fun c => absurd c (by decide))
                  refine wn_inc (lv' := [.ref b, .int (nI one), .int (nI oth), .int (nI c), .int (nI i), .int (nI (j + 1)), .int (nI 0)]) rfl rfl rfl ?_
                  refine wq_goto rfl ?_
                  rw [kb_f (i := i) (j := j) (fun hA hB => by exact (bB_iff.mp hB).2.2.1 c72)]
                  exact ih (j + 1) _ (by omega) (by rfl)
                · skip
                  refine wq_iconst (v := nI 1) rfl (by decide) ?_
                  refine wq_goto rfl ?_
                  refine wq_istore (lv' := [.ref b, .int (nI one), .int (nI oth), .int (nI c), .int (nI i), .int (nI j), .int (nI 1)]) rfl rfl rfl ?_
                  refine wq_iload rfl rfl ?_
                  refine wq_if_eq rfl (fun c => absurd c (by decide)) (fun _ => ?_)
                  refine wq_aload_n rfl rfl ?_
                  refine wq_iload_n rfl rfl ?_
                  refine wq_iload rfl rfl ?_
                  refine wq_virt (b := b) (a := [.int (nI one), .int (nI i)]) (rest := []) rfl rfl rfl rfl rfl (mS_o hb) ?_
                  refine r_S_kinOf hb (by omega) (by omega) ?_
                  rw [kb_one]
                  show WP _ _ _ _ 94 [.ref b, .int (nI one), .int (nI oth), .int (nI c), .int (nI i), .int (nI j), .int (nI 1)] [.int (nI (kf one i))] (mS b pre F G th pcs brs be po ro (kb pcs kf one oth c i j) bg en)
                  refine wq_iload_n rfl rfl ?_
                  refine wn_ic_le rfl (by omega) (by omega) (fun c95 => ?_) (fun c95 => ?_)
                  · skip
                    refine wn_inc (lv' := [.ref b, .int (nI one), .int (nI oth), .int (nI c), .int (nI i), .int (nI (j + 1)), .int (nI 1)]) rfl rfl rfl ?_
                    refine wq_goto rfl ?_
                    rw [kb_f (i := i) (j := j) (fun hA hB => by have := (bA_iff.mp hA).2.2.2; omega)]
                    exact ih (j + 1) _ (by omega) (by rfl)
                  · skip
                    refine wq_aload_n rfl rfl ?_
                    refine wq_iload_n rfl rfl ?_
                    refine wq_iload rfl rfl ?_
                    refine wq_virt (b := b) (a := [.int (nI oth), .int (nI j)]) (rest := []) rfl rfl rfl rfl rfl (mS_o hb) ?_
                    refine r_S_kinOf hb (by omega) (by omega) ?_
                    rw [kb_oth]
                    show WP _ _ _ _ 105 [.ref b, .int (nI one), .int (nI oth), .int (nI c), .int (nI i), .int (nI j), .int (nI 1)] [.int (nI (kf oth j))] (mS b pre F G th pcs brs be po ro (kb pcs kf one oth c i j) bg en)
                    refine wq_iload_n rfl rfl ?_
                    refine wn_ic_le rfl (by omega) (by omega) (fun c106 => ?_) (fun c106 => ?_)
                    · skip
                      refine wn_inc (lv' := [.ref b, .int (nI one), .int (nI oth), .int (nI c), .int (nI i), .int (nI (j + 1)), .int (nI 1)]) rfl rfl rfl ?_
                      refine wq_goto rfl ?_
                      rw [kb_f (i := i) (j := j) (fun hA hB => by have := (bB_iff.mp hB).2.2.2; omega)]
                      exact ih (j + 1) _ (by omega) (by rfl)
                    · skip
                      refine wq_aload_n rfl rfl ?_
                      refine wq_iload rfl rfl ?_
                      refine wq_iload rfl rfl ?_
                      refine wq_aload_n rfl rfl ?_
                      refine wq_iload_n rfl rfl ?_
                      refine wq_iload rfl rfl ?_
                      refine wq_virt (b := b) (a := [.int (nI one), .int (nI i)]) (rest := [.int (nI j), .int (nI i), .ref b]) rfl rfl rfl rfl rfl (mS_o hb) ?_
                      refine r_S_kinOf hb (by omega) (by omega) ?_
                      rw [kb_one]
                      show WP _ _ _ _ 121 [.ref b, .int (nI one), .int (nI oth), .int (nI c), .int (nI i), .int (nI j), .int (nI 1)] [.int (nI (kf one i)), .int (nI j), .int (nI i), .ref b] (mS b pre F G th pcs brs be po ro (kb pcs kf one oth c i j) bg en)
                      refine wq_aload_n rfl rfl ?_
                      refine wq_iload_n rfl rfl ?_
                      refine wq_iload rfl rfl ?_
                      refine wq_virt (b := b) (a := [.int (nI oth), .int (nI j)]) (rest := [.int (nI (kf one i)), .int (nI j), .int (nI i), .ref b]) rfl rfl rfl rfl rfl (mS_o hb) ?_
                      refine r_S_kinOf hb (by omega) (by omega) ?_
                      rw [kb_oth]
                      show WP _ _ _ _ 128 [.ref b, .int (nI one), .int (nI oth), .int (nI c), .int (nI i), .int (nI j), .int (nI 1)] [.int (nI (kf oth j)), .int (nI (kf one i)), .int (nI j), .int (nI i), .ref b] (mS b pre F G th pcs brs be po ro (kb pcs kf one oth c i j) bg en)
                      refine wn_ic_ge rfl (by omega) (by omega) (fun c128 => ?_) (fun c128 => ?_)
                      · skip
                        refine wq_aload_n rfl rfl ?_
                        refine wq_iload_n rfl rfl ?_
                        refine wq_iload rfl rfl ?_
                        refine wq_virt (b := b) (a := [.int (nI oth), .int (nI j)]) (rest := [.int (nI j), .int (nI i), .ref b]) rfl rfl rfl rfl rfl (mS_o hb) ?_
                        refine r_S_kinOf hb (by omega) (by omega) ?_
                        rw [kb_oth]
                        show WP _ _ _ _ 148 [.ref b, .int (nI one), .int (nI oth), .int (nI c), .int (nI i), .int (nI j), .int (nI 1)] [.int (nI (kf oth j)), .int (nI j), .int (nI i), .ref b] (mS b pre F G th pcs brs be po ro (kb pcs kf one oth c i j) bg en)
                        refine wq_virt (b := b) (a := [.int (nI i), .int (nI j), .int (nI (kf oth j))]) (rest := []) rfl rfl rfl rfl rfl (mS_o hb) ?_
                        refine r_S_makesKin hb (by omega) (by omega) ?_
                        show WP _ _ _ _ 151 [.ref b, .int (nI one), .int (nI oth), .int (nI c), .int (nI i), .int (nI j), .int (nI 1)] [] (mS b pre F G th pcs brs be po ro (sK (kb pcs kf one oth c i j) i j (kf oth j)) bg en)
                        refine wn_inc (lv' := [.ref b, .int (nI one), .int (nI oth), .int (nI c), .int (nI i), .int (nI (j + 1)), .int (nI 1)]) rfl rfl rfl ?_
                        refine wq_goto rfl ?_
                        rw [kb_t hex (bA_iff.mpr ⟨c26, c54, c60, c95⟩) (bB_iff.mpr ⟨c38, c66, c72, c106⟩) (by omega)]
                        exact ih (j + 1) _ (by omega) (by rfl)
                      · skip
                        refine wq_aload_n rfl rfl ?_
                        refine wq_iload_n rfl rfl ?_
                        refine wq_iload rfl rfl ?_
                        refine wq_virt (b := b) (a := [.int (nI one), .int (nI i)]) (rest := [.int (nI j), .int (nI i), .ref b]) rfl rfl rfl rfl rfl (mS_o hb) ?_
                        refine r_S_kinOf hb (by omega) (by omega) ?_
                        rw [kb_one]
                        show WP _ _ _ _ 138 [.ref b, .int (nI one), .int (nI oth), .int (nI c), .int (nI i), .int (nI j), .int (nI 1)] [.int (nI (kf one i)), .int (nI j), .int (nI i), .ref b] (mS b pre F G th pcs brs be po ro (kb pcs kf one oth c i j) bg en)
                        refine wq_goto rfl ?_
                        refine wq_virt (b := b) (a := [.int (nI i), .int (nI j), .int (nI (kf one i))]) (rest := []) rfl rfl rfl rfl rfl (mS_o hb) ?_
                        refine r_S_makesKin hb (by omega) (by omega) ?_
                        show WP _ _ _ _ 151 [.ref b, .int (nI one), .int (nI oth), .int (nI c), .int (nI i), .int (nI j), .int (nI 1)] [] (mS b pre F G th pcs brs be po ro (sK (kb pcs kf one oth c i j) i j (kf one i)) bg en)
                        refine wn_inc (lv' := [.ref b, .int (nI one), .int (nI oth), .int (nI c), .int (nI i), .int (nI (j + 1)), .int (nI 1)]) rfl rfl rfl ?_
                        refine wq_goto rfl ?_
                        rw [kb_t hex (bA_iff.mpr ⟨c26, c54, c60, c95⟩) (bB_iff.mpr ⟨c38, c66, c72, c106⟩) (by omega)]
                        exact ih (j + 1) _ (by omega) (by rfl)
      · skip
        show WP _ _ _ _ 41 [.ref b, .int (nI one), .int (nI oth), .int (nI c), .int (nI i), .int (nI j), av] [.int (nI 0)] (mS b pre F G th pcs brs be po ro (kb pcs kf one oth c i j) bg en)
        refine wq_if_eq rfl (fun _ => ?_) (fun c => absurd c (by decide))
        refine wq_iconst (v := nI 0) rfl (by decide) ?_
        refine wq_istore (lv' := [.ref b, .int (nI one), .int (nI oth), .int (nI c), .int (nI i), .int (nI j), .int (nI 0)]) rfl rfl rfl ?_
        refine wq_iload rfl rfl ?_
        refine wq_if_eq rfl (fun _ => ?_) (fun c => absurd c (by decide))
        refine wn_inc (lv' := [.ref b, .int (nI one), .int (nI oth), .int (nI c), .int (nI i), .int (nI (j + 1)), .int (nI 0)]) rfl rfl rfl ?_
        refine wq_goto rfl ?_
        rw [kb_f (i := i) (j := j) (fun hA hB => by exact absurd (bB_iff.mp hB).1 (by rw [c38]; decide))]
        exact ih (j + 1) _ (by omega) (by rfl)
    · skip
      show WP _ _ _ _ 29 [.ref b, .int (nI one), .int (nI oth), .int (nI c), .int (nI i), .int (nI j), av] [.int (nI 0)] (mS b pre F G th pcs brs be po ro (kb pcs kf one oth c i j) bg en)
      refine wq_if_eq rfl (fun _ => ?_) (fun c => absurd c (by decide))
      refine wq_iconst (v := nI 0) rfl (by decide) ?_
      refine wq_istore (lv' := [.ref b, .int (nI one), .int (nI oth), .int (nI c), .int (nI i), .int (nI j), .int (nI 0)]) rfl rfl rfl ?_
      refine wq_iload rfl rfl ?_
      refine wq_if_eq rfl (fun _ => ?_) (fun c => absurd c (by decide))
      refine wn_inc (lv' := [.ref b, .int (nI one), .int (nI oth), .int (nI c), .int (nI i), .int (nI (j + 1)), .int (nI 0)]) rfl rfl rfl ?_
      refine wq_goto rfl ?_
      rw [kb_f (i := i) (j := j) (fun hA hB => by exact absurd (bA_iff.mp hA).1 (by rw [c26]; decide))]
      exact ih (j + 1) _ (by omega) (by rfl)
theorem l_S_binds2 {d b : Nat} {pre : mH} {F : Nat → Nat} {G : Nat → Nat → Nat} {th pcs brs : Nat} {be po ro bg en : Nat → Nat} {kf : Nat → Nat → Nat} {Q : Option Value → mH → Prop} (hb : pre.length = b) {one oth c : Nat} (h1 : one < 9) (h2 : oth < 9) (hc : c < 1000) (hp : pcs < 512) (hk : ∀ p q, p < 9 → q < 9 → kf p q < 1000) (hex : ∀ x, bA pcs kf one oth c x = true → bB pcs kf one oth c x = true → False) (hQ : Q none (mS b pre F G th pcs brs be po ro (kb pcs kf one oth c 9 0) bg en)) : ∀ (n i : Nat) (jv av : Value), i + n = 9 → WP (Rn mprog (d + 1)) k_M_bindsNear none Q 3 [.ref b, .int (nI one), .int (nI oth), .int (nI c), .int (nI i), jv, av] [] (mS b pre F G th pcs brs be po ro (kb pcs kf one oth c i 0) bg en) := by
  intro n
  induction n with
  | zero =>
    intro i jv av hi
    have hi9 : i = 9 := by omega
    subst hi9
    refine wq_iload rfl rfl ?_
    refine wq_bipush (v := nI 9) rfl (by decide) ?_
    refine wq_ic_ge rfl (fun _ => ?_) (fun c => absurd c (by decide))
    refine wq_vret rfl rfl ?_
    exact hQ
  | succ n ih =>
    intro i jv av hi
    refine wq_iload rfl rfl ?_
    refine wq_bipush (v := nI 9) rfl (by decide) ?_
    refine wn_ic_ge rfl (by omega) (by omega) (fun c7 => absurd c7 (by omega)) (fun c7 => ?_)
    refine wq_iconst (v := nI 0) rfl (by decide) ?_
    refine wq_istore (lv' := [.ref b, .int (nI one), .int (nI oth), .int (nI c), .int (nI i), .int (nI 0), av]) rfl rfl rfl ?_
    refine l_S_binds1 hb h1 h2 hc hp hk hex (i := i) (by omega) (fun av => ?_) 9 0 av rfl rfl
    refine wn_inc (lv' := [.ref b, .int (nI one), .int (nI oth), .int (nI c), .int (nI (i + 1)), .int (nI 9), av]) rfl rfl rfl ?_
    refine wq_goto rfl ?_
    rw [kb_row hp]
    exact ih (i + 1) _ _ (by omega)
theorem r_S_binds {d b : Nat} {pre : mH} {F : Nat → Nat} {G : Nat → Nat → Nat} {th pcs brs : Nat} {be po ro bg en : Nat → Nat} {kf : Nat → Nat → Nat} {Q : Option Value → mH → Prop} (hb : pre.length = b) {one oth c : Nat} (h1 : one < 9) (h2 : oth < 9) (hc : c < 1000) (hp : pcs < 512) (hk : ∀ p q, p < 9 → q < 9 → kf p q < 1000) (hex : ∀ x, bA pcs kf one oth c x = true → bB pcs kf one oth c x = true → False) (hQ : Q none (mS b pre F G th pcs brs be po ro (kb pcs kf one oth c 9 0) bg en)) : Rn mprog (d + 2) n_M_bindsNear [.ref b, .int (nI one), .int (nI oth), .int (nI c)] (mS b pre F G th pcs brs be po ro kf bg en) Q := by
  refine Rn.in rfl rfl rfl ?_
  show WP _ _ _ _ 0 [.ref b, .int (nI one), .int (nI oth), .int (nI c), .long 0, .long 0, .long 0] [] (mS b pre F G th pcs brs be po ro kf bg en)
  refine wq_iconst (v := nI 0) rfl (by decide) ?_
  refine wq_istore (lv' := [.ref b, .int (nI one), .int (nI oth), .int (nI c), .int (nI 0), .long 0, .long 0]) rfl rfl rfl ?_
  have q := l_S_binds2 (d := d) hb h1 h2 hc hp hk hex hQ 9 0 (.long 0) (.long 0) rfl
  rw [kb_0] at q
  exact q
end
section
/-! the reference's story: joins, does, runs -/
def isR (pcs : Nat) (kf : Nat → Nat → Nat) (one oth q : Nat) : Bool := Nat.beq q one || Nat.beq q oth || (pcs.testBit q && (Nat.blt 0 (kf one q) || Nat.blt 0 (kf oth q)))
theorem isR_iff {pcs one oth q : Nat} {kf : Nat → Nat → Nat} : isR pcs kf one oth q = true ↔ q = one ∨ q = oth ∨ (pcs.testBit q = true ∧ (0 < kf one q ∨ 0 < kf oth q)) := by
  unfold isR
  rw [Bool.or_eq_true, Bool.or_eq_true, Bool.and_eq_true, Bool.or_eq_true, Nat.beq_eq, Nat.beq_eq, nblt, nblt, or_assoc]
theorem isR_f {pcs one oth q : Nat} {kf : Nat → Nat → Nat} (h : ¬ (q = one ∨ q = oth ∨ (pcs.testBit q = true ∧ (0 < kf one q ∨ 0 < kf oth q)))) : isR pcs kf one oth q = false := by
  cases e : isR pcs kf one oth q
  · rfl
  · exact absurd (isR_iff.mp e) h
theorem l_S_joinsR {d b : Nat} {pre : mH} {F : Nat → Nat} {G : Nat → Nat → Nat} {th pcs brs : Nat} {be po ro bg en : Nat → Nat} {kf : Nat → Nat → Nat} {Q : Option Value → mH → Prop} (hb : pre.length = b) {a bb num one oth sn le gr : Nat} (h1 : one < 9) (h2 : oth < 9) (hp : pcs < 512) (hk : ∀ p q, p < 9 → q < 9 → kf p q < 1000) (k : ∀ x9 x10 : Value, WP (Rn mprog (d + 2)) k_M_joins none Q 231 [.ref b, .int (nI a), .int (nI bb), .int (nI num), .int (nI one), .int (nI oth), .int (nI sn), .int (nI le), .int (nI gr), x9, x10] [] (mS b pre F G th pcs brs be po (pw 9 (isR pcs kf one oth) (fun _ => le) ro) kf bg en)) : ∀ (n i : Nat) (x10 : Value), i + n = 9 → WP (Rn mprog (d + 2)) k_M_joins none Q 139 [.ref b, .int (nI a), .int (nI bb), .int (nI num), .int (nI one), .int (nI oth), .int (nI sn), .int (nI le), .int (nI gr), .int (nI i), x10] [] (mS b pre F G th pcs brs be po (pw i (isR pcs kf one oth) (fun _ => le) ro) kf bg en) := by
  intro n
  induction n with
  | zero =>
    intro i x10 hi
    have hi9 : i = 9 := by omega
    subst hi9
    refine wq_iload rfl rfl ?_
    refine wq_bipush (v := nI 9) rfl (by decide) ?_
    refine wq_ic_ge rfl (fun _ => ?_) (fun c => absurd c (by decide))
    exact k _ _
  | succ n ih =>
    intro i x10 hi
    have hk1 := hk one i h1 (by omega)
    have hk2 := hk oth i h2 (by omega)
    refine wq_iload rfl rfl ?_
    refine wq_bipush (v := nI 9) rfl (by decide) ?_
    refine wn_ic_ge rfl (by omega) (by omega) (fun c143 => absurd c143 (by omega)) (fun c143 => ?_)
    refine wq_iload rfl rfl ?_
    refine wq_iload rfl rfl ?_
    refine wn_ic_eq rfl (by omega) (by omega) (fun c150 => ?_) (fun c150 => ?_)
    · skip
      refine wq_iconst (v := nI 1) rfl (by decide) ?_
      refine wq_goto rfl ?_
      refine wq_istore (lv' := [.ref b, .int (nI a), .int (nI bb), .int (nI num), .int (nI one), .int (nI oth), .int (nI sn), .int (nI le), .int (nI gr), .int (nI i), .int (nI 1)]) rfl rfl rfl ?_
      refine wq_aload_n rfl rfl ?_
      refine wq_getfield (v := .ref (b + 7)) rfl (mS_o hb) rfl ?_
      refine wq_iload rfl rfl ?_
      refine wq_iload rfl rfl ?_
      refine wq_if_eq rfl (fun c => absurd c (by decide)) (fun _ => ?_)
      refine wq_iload rfl rfl ?_
      refine wq_goto rfl ?_
      refine wn_iastore (g := (pw i (isR pcs kf one oth) (fun _ => le) ro)) (h' := mS b pre F G th pcs brs be po (uN' ((pw i (isR pcs kf one oth) (fun _ => le) ro)) i le) kf bg en) rfl (mS_a12 hb) (by omega) (by decide) (mS_t12 hb) ?_
      refine wn_inc (lv' := [.ref b, .int (nI a), .int (nI bb), .int (nI num), .int (nI one), .int (nI oth), .int (nI sn), .int (nI le), .int (nI gr), .int (nI (i + 1)), .int (nI 1)]) rfl rfl rfl ?_
      refine wq_goto rfl ?_
      have hR : isR pcs kf one oth i = true := isR_iff.mpr (Or.inl c150)
      rw [pw_s (by rw [hR]; simp [pw_at])]
      exact ih (i + 1) _ (by omega)
    · skip
      refine wq_iload rfl rfl ?_
      refine wq_iload rfl rfl ?_
      refine wn_ic_eq rfl (by omega) (by omega) (fun c157 => ?_) (fun c157 => ?_)
      · skip
        refine wq_iconst (v := nI 1) rfl (by decide) ?_
        refine wq_goto rfl ?_
        refine wq_istore (lv' := [.ref b, .int (nI a), .int (nI bb), .int (nI num), .int (nI one), .int (nI oth), .int (nI sn), .int (nI le), .int (nI gr), .int (nI i), .int (nI 1)]) rfl rfl rfl ?_
        refine wq_aload_n rfl rfl ?_
        refine wq_getfield (v := .ref (b + 7)) rfl (mS_o hb) rfl ?_
        refine wq_iload rfl rfl ?_
        refine wq_iload rfl rfl ?_
        refine wq_if_eq rfl (fun c => absurd c (by decide)) (fun _ => ?_)
        refine wq_iload rfl rfl ?_
        refine wq_goto rfl ?_
        refine wn_iastore (g := (pw i (isR pcs kf one oth) (fun _ => le) ro)) (h' := mS b pre F G th pcs brs be po (uN' ((pw i (isR pcs kf one oth) (fun _ => le) ro)) i le) kf bg en) rfl (mS_a12 hb) (by omega) (by decide) (mS_t12 hb) ?_
        refine wn_inc (lv' := [.ref b, .int (nI a), .int (nI bb), .int (nI num), .int (nI one), .int (nI oth), .int (nI sn), .int (nI le), .int (nI gr), .int (nI (i + 1)), .int (nI 1)]) rfl rfl rfl ?_
        refine wq_goto rfl ?_
        have hR : isR pcs kf one oth i = true := isR_iff.mpr (Or.inr (Or.inl c157))
        rw [pw_s (by rw [hR]; simp [pw_at])]
        exact ih (i + 1) _ (by omega)
      · skip
        refine wq_aload_n rfl rfl ?_
        refine wq_getfield (v := .int (nI pcs)) rfl (mS_o hb) rfl ?_
        refine wq_iload rfl rfl ?_
        refine wq_stat (a := [.int (nI pcs), .int (nI i)]) (rest := []) rfl rfl rfl rfl rfl ?_
        refine r_M_has (by omega) (by omega) (fun c166 => ?_) (fun c166 => ?_)
        · skip
          show WP _ _ _ _ 169 [.ref b, .int (nI a), .int (nI bb), .int (nI num), .int (nI one), .int (nI oth), .int (nI sn), .int (nI le), .int (nI gr), .int (nI i), x10] [.int (nI 1)] (mS b pre F G th pcs brs be po (pw i (isR pcs kf one oth) (fun _ => le) ro) kf bg en)
          refine wq_if_eq rfl (fun c => absurd c (by decide)) (fun _ => ?_)
          refine wq_aload_n rfl rfl ?_
          refine wq_iload rfl rfl ?_
          refine wq_iload rfl rfl ?_
          refine wq_virt (b := b) (a := [.int (nI one), .int (nI i)]) (rest := []) rfl rfl rfl rfl rfl (mS_o hb) ?_
          refine r_S_kinOf hb (by omega) (by omega) ?_
          show WP _ _ _ _ 180 [.ref b, .int (nI a), .int (nI bb), .int (nI num), .int (nI one), .int (nI oth), .int (nI sn), .int (nI le), .int (nI gr), .int (nI i), x10] [.int (nI (kf one i))] (mS b pre F G th pcs brs be po (pw i (isR pcs kf one oth) (fun _ => le) ro) kf bg en)
          refine wn_if_gt rfl (by omega) (fun c180 => ?_) (fun c180 => ?_)
          · skip
            refine wq_iconst (v := nI 1) rfl (by decide) ?_
            refine wq_goto rfl ?_
            refine wq_istore (lv' := [.ref b, .int (nI a), .int (nI bb), .int (nI num), .int (nI one), .int (nI oth), .int (nI sn), .int (nI le), .int (nI gr), .int (nI i), .int (nI 1)]) rfl rfl rfl ?_
            refine wq_aload_n rfl rfl ?_
            refine wq_getfield (v := .ref (b + 7)) rfl (mS_o hb) rfl ?_
            refine wq_iload rfl rfl ?_
            refine wq_iload rfl rfl ?_
            refine wq_if_eq rfl (fun c => absurd c (by decide)) (fun _ => ?_)
            refine wq_iload rfl rfl ?_
            refine wq_goto rfl ?_
            refine wn_iastore (g := (pw i (isR pcs kf one oth) (fun _ => le) ro)) (h' := mS b pre F G th pcs brs be po (uN' ((pw i (isR pcs kf one oth) (fun _ => le) ro)) i le) kf bg en) rfl (mS_a12 hb) (by omega) (by decide) (mS_t12 hb) ?_
            refine wn_inc (lv' := [.ref b, .int (nI a), .int (nI bb), .int (nI num), .int (nI one), .int (nI oth), .int (nI sn), .int (nI le), .int (nI gr), .int (nI (i + 1)), .int (nI 1)]) rfl rfl rfl ?_
            refine wq_goto rfl ?_
            have hR : isR pcs kf one oth i = true := isR_iff.mpr (Or.inr (Or.inr ⟨c166, Or.inl c180⟩))
            rw [pw_s (by rw [hR]; simp [pw_at])]
            exact ih (i + 1) _ (by omega)
          · skip
            refine wq_aload_n rfl rfl ?_
            refine wq_iload rfl rfl ?_
            refine wq_iload rfl rfl ?_
            refine wq_virt (b := b) (a := [.int (nI oth), .int (nI i)]) (rest := []) rfl rfl rfl rfl rfl (mS_o hb) ?_
            refine r_S_kinOf hb (by omega) (by omega) ?_
            show WP _ _ _ _ 191 [.ref b, .int (nI a), .int (nI bb), .int (nI num), .int (nI one), .int (nI oth), .int (nI sn), .int (nI le), .int (nI gr), .int (nI i), x10] [.int (nI (kf oth i))] (mS b pre F G th pcs brs be po (pw i (isR pcs kf one oth) (fun _ => le) ro) kf bg en)
            refine wn_if_le rfl (by omega) (fun c191 => ?_) (fun c191 => ?_)
            · skip
              refine wq_iconst (v := nI 0) rfl (by decide) ?_
              refine wq_istore (lv' := [.ref b, .int (nI a), .int (nI bb), .int (nI num), .int (nI one), .int (nI oth), .int (nI sn), .int (nI le), .int (nI gr), .int (nI i), .int (nI 0)]) rfl rfl rfl ?_
              refine wq_aload_n rfl rfl ?_
              refine wq_getfield (v := .ref (b + 7)) rfl (mS_o hb) rfl ?_
              refine wq_iload rfl rfl ?_
              refine wq_iload rfl rfl ?_
              refine wq_if_eq rfl (fun _ => ?_) (fun c => absurd c (by decide))
              refine wq_aload_n rfl rfl ?_
              refine wq_getfield (v := .ref (b + 7)) rfl (mS_o hb) rfl ?_
              refine wq_iload rfl rfl ?_
              refine wn_iaload (g := (pw i (isR pcs kf one oth) (fun _ => le) ro)) rfl (mS_a12 hb) (by omega) (by decide) ?_
              refine wn_iastore (g := (pw i (isR pcs kf one oth) (fun _ => le) ro)) (h' := mS b pre F G th pcs brs be po (uN' ((pw i (isR pcs kf one oth) (fun _ => le) ro)) i (((pw i (isR pcs kf one oth) (fun _ => le) ro)) i)) kf bg en) rfl (mS_a12 hb) (by omega) (by decide) (mS_t12 hb) ?_
              refine wn_inc (lv' := [.ref b, .int (nI a), .int (nI bb), .int (nI num), .int (nI one), .int (nI oth), .int (nI sn), .int (nI le), .int (nI gr), .int (nI (i + 1)), .int (nI 0)]) rfl rfl rfl ?_
              refine wq_goto rfl ?_
              have hR : isR pcs kf one oth i = false := isR_f (by simp [c150, c157, c180, c191])
              rw [pw_s (by rw [hR]; simp [pw_at])]
              exact ih (i + 1) _ (by omega)
            · skip
              refine wq_iconst (v := nI 1) rfl (by decide) ?_
              refine wq_goto rfl ?_
              refine wq_istore (lv' := [.ref b, .int (nI a), .int (nI bb), .int (nI num), .int (nI one), .int (nI oth), .int (nI sn), .int (nI le), .int (nI gr), .int (nI i), .int (nI 1)]) rfl rfl rfl ?_
              refine wq_aload_n rfl rfl ?_
              refine wq_getfield (v := .ref (b + 7)) rfl (mS_o hb) rfl ?_
              refine wq_iload rfl rfl ?_
              refine wq_iload rfl rfl ?_
              refine wq_if_eq rfl (fun c => absurd c (by decide)) (fun _ => ?_)
              refine wq_iload rfl rfl ?_
              refine wq_goto rfl ?_
              refine wn_iastore (g := (pw i (isR pcs kf one oth) (fun _ => le) ro)) (h' := mS b pre F G th pcs brs be po (uN' ((pw i (isR pcs kf one oth) (fun _ => le) ro)) i le) kf bg en) rfl (mS_a12 hb) (by omega) (by decide) (mS_t12 hb) ?_
              refine wn_inc (lv' := [.ref b, .int (nI a), .int (nI bb), .int (nI num), .int (nI one), .int (nI oth), .int (nI sn), .int (nI le), .int (nI gr), .int (nI (i + 1)), .int (nI 1)]) rfl rfl rfl ?_
              refine wq_goto rfl ?_
              have hR : isR pcs kf one oth i = true := isR_iff.mpr (Or.inr (Or.inr ⟨c166, Or.inr c191⟩))
              rw [pw_s (by rw [hR]; simp [pw_at])]
              exact ih (i + 1) _ (by omega)
        · skip
          show WP _ _ _ _ 169 [.ref b, .int (nI a), .int (nI bb), .int (nI num), .int (nI one), .int (nI oth), .int (nI sn), .int (nI le), .int (nI gr), .int (nI i), x10] [.int (nI 0)] (mS b pre F G th pcs brs be po (pw i (isR pcs kf one oth) (fun _ => le) ro) kf bg en)
          refine wq_if_eq rfl (fun _ => ?_) (fun c => absurd c (by decide))
          refine wq_iconst (v := nI 0) rfl (by decide) ?_
          refine wq_istore (lv' := [.ref b, .int (nI a), .int (nI bb), .int (nI num), .int (nI one), .int (nI oth), .int (nI sn), .int (nI le), .int (nI gr), .int (nI i), .int (nI 0)]) rfl rfl rfl ?_
          refine wq_aload_n rfl rfl ?_
          refine wq_getfield (v := .ref (b + 7)) rfl (mS_o hb) rfl ?_
          refine wq_iload rfl rfl ?_
          refine wq_iload rfl rfl ?_
          refine wq_if_eq rfl (fun _ => ?_) (fun c => absurd c (by decide))
          refine wq_aload_n rfl rfl ?_
          refine wq_getfield (v := .ref (b + 7)) rfl (mS_o hb) rfl ?_
          refine wq_iload rfl rfl ?_
          refine wn_iaload (g := (pw i (isR pcs kf one oth) (fun _ => le) ro)) rfl (mS_a12 hb) (by omega) (by decide) ?_
          refine wn_iastore (g := (pw i (isR pcs kf one oth) (fun _ => le) ro)) (h' := mS b pre F G th pcs brs be po (uN' ((pw i (isR pcs kf one oth) (fun _ => le) ro)) i (((pw i (isR pcs kf one oth) (fun _ => le) ro)) i)) kf bg en) rfl (mS_a12 hb) (by omega) (by decide) (mS_t12 hb) ?_
          refine wn_inc (lv' := [.ref b, .int (nI a), .int (nI bb), .int (nI num), .int (nI one), .int (nI oth), .int (nI sn), .int (nI le), .int (nI gr), .int (nI (i + 1)), .int (nI 0)]) rfl rfl rfl ?_
          refine wq_goto rfl ?_
          have hR : isR pcs kf one oth i = false := isR_f (by rw [c166]; simp [c150, c157])
          rw [pw_s (by rw [hR]; simp [pw_at])]
          exact ih (i + 1) _ (by omega)
def cJ (pcs : Nat) (kf : Nat → Nat → Nat) (one oth q : Nat) : Bool := pcs.testBit q && !Nat.beq q one && Nat.blt (kf one q) (kf oth q)
theorem cJ_iff {pcs one oth q : Nat} {kf : Nat → Nat → Nat} : cJ pcs kf one oth q = true ↔ pcs.testBit q = true ∧ q ≠ one ∧ kf one q < kf oth q := by
  unfold cJ
  rw [Bool.and_eq_true, Bool.and_eq_true, nbeq, nblt, and_assoc]
def kj (pcs : Nat) (kf : Nat → Nat → Nat) (one oth i : Nat) : Nat → Nat → Nat := fun x y =>
  if x = one ∧ y < i ∧ cJ pcs kf one oth y = true then kf oth y else if y = one ∧ x < i ∧ cJ pcs kf one oth x = true then kf oth x else kf x y
theorem kj_0 (pcs : Nat) (kf : Nat → Nat → Nat) (one oth : Nat) : kj pcs kf one oth 0 = kf := by
  funext x y
  unfold kj
  rw [if_neg (by omega), if_neg (by omega)]
theorem kj_at {pcs : Nat} {kf : Nat → Nat → Nat} {one oth i x : Nat} (h : i ≠ one) : kj pcs kf one oth i x i = kf x i := by
  unfold kj
  rw [if_neg (by omega), if_neg (fun q => h q.1)]
theorem kj_t {pcs : Nat} {kf : Nat → Nat → Nat} {one oth i v : Nat} (hc : cJ pcs kf one oth i = true) (hv : v = kf oth i) : sK (kj pcs kf one oth i) one i v = kj pcs kf one oth (i + 1) := by
  have hi := (cJ_iff.mp hc).2.1
  funext x y
  unfold sK kj
  by_cases hx : x = one
  · by_cases hy : y = i
    · rw [if_pos (c := (x = one ∧ y = i) ∨ (x = i ∧ y = one)) (Or.inl ⟨hx, hy⟩), if_pos (c := x = one ∧ y < i + 1 ∧ _) ⟨hx, by omega, by rw [hy]; exact hc⟩, hv, hy]
    · rw [if_neg (c := (x = one ∧ y = i) ∨ (x = i ∧ y = one)) (by omega)]
      have e1 : (x = one ∧ y < i ∧ cJ pcs kf one oth y = true) ↔ (x = one ∧ y < i + 1 ∧ cJ pcs kf one oth y = true) := ⟨fun q => ⟨q.1, by omega, q.2.2⟩, fun q => ⟨q.1, by omega, q.2.2⟩⟩
      have e2 : (y = one ∧ x < i ∧ cJ pcs kf one oth x = true) ↔ (y = one ∧ x < i + 1 ∧ cJ pcs kf one oth x = true) := ⟨fun q => ⟨q.1, by omega, q.2.2⟩, fun q => ⟨q.1, by omega, q.2.2⟩⟩
      simp only [e1, e2]
  · rw [if_neg (c := x = one ∧ y < i ∧ _) (fun q => hx q.1), if_neg (c := x = one ∧ y < i + 1 ∧ _) (fun q => hx q.1)]
    by_cases h2 : x = i ∧ y = one
    · rw [if_pos (c := (x = one ∧ y = i) ∨ (x = i ∧ y = one)) (Or.inr h2), if_pos (c := y = one ∧ x < i + 1 ∧ _) ⟨h2.2, by omega, by rw [h2.1]; exact hc⟩, hv, h2.1]
    · rw [if_neg (c := (x = one ∧ y = i) ∨ (x = i ∧ y = one)) (by omega)]
      have e2 : (y = one ∧ x < i ∧ cJ pcs kf one oth x = true) ↔ (y = one ∧ x < i + 1 ∧ cJ pcs kf one oth x = true) := ⟨fun q => ⟨q.1, by omega, q.2.2⟩, fun q => ⟨q.1, by omega, q.2.2⟩⟩
      simp only [e2]
theorem kj_f {pcs : Nat} {kf : Nat → Nat → Nat} {one oth i : Nat} (hc : cJ pcs kf one oth i = true → False) : kj pcs kf one oth i = kj pcs kf one oth (i + 1) := by
  funext x y
  unfold kj
  have e : ∀ z, (z < i ∧ cJ pcs kf one oth z = true) ↔ (z < i + 1 ∧ cJ pcs kf one oth z = true) := fun z => ⟨fun q => ⟨by omega, q.2⟩, fun q => ⟨by
    rcases Nat.lt_or_eq_of_le (Nat.le_of_lt_succ q.1) with h | h
    · exact h
    · exact (hc (by rw [← h]; exact q.2)).elim, q.2⟩⟩
  simp only [e]
theorem l_S_joinsK {d b : Nat} {pre : mH} {F : Nat → Nat} {G : Nat → Nat → Nat} {th pcs brs : Nat} {be po ro bg en : Nat → Nat} {kf : Nat → Nat → Nat} {Q : Option Value → mH → Prop} (hb : pre.length = b) {a bb num one oth sn le gr : Nat} (h1 : one < 9) (h2 : oth < 9) (hp : pcs < 512) (hk : ∀ p q, p < 9 → q < 9 → kf p q < 1000) (k : ∀ x9 : Value, ∀ x10 : Value, WP (Rn mprog (d + 2)) k_M_joins none Q 326 [.ref b, .int (nI a), .int (nI bb), .int (nI num), .int (nI one), .int (nI oth), .int (nI sn), .int (nI le), .int (nI gr), x9, x10] [] (mS b pre F G th pcs brs be po ro (kj pcs kf one oth 9) bg en)) : ∀ (n i : Nat), i + n = 9 → ∀ x10 : Value, WP (Rn mprog (d + 2)) k_M_joins none Q 259 [.ref b, .int (nI a), .int (nI bb), .int (nI num), .int (nI one), .int (nI oth), .int (nI sn), .int (nI le), .int (nI gr), .int (nI i), x10] [] (mS b pre F G th pcs brs be po ro (kj pcs kf one oth i) bg en) := by
  intro n
  induction n with
  | zero =>
    intro i hi x10
    have hi9 : i = 9 := by omega
    subst hi9
    refine wq_iload rfl rfl ?_
    refine wq_bipush (v := nI 9) rfl (by decide) ?_
    refine wq_ic_ge rfl (fun _ => ?_) (fun c => absurd c (by decide))
    exact k _ _
  | succ n ih =>
    intro i hi x10
    have hk1 := hk one i h1 (by omega)
    have hk2 := hk oth i h2 (by omega)
    refine wq_iload rfl rfl ?_
    refine wq_bipush (v := nI 9) rfl (by decide) ?_
    refine wn_ic_ge rfl (by omega) (by omega) (fun c263 => absurd c263 (by omega)) (fun c263 => ?_)
    refine wq_aload_n rfl rfl ?_
    refine wq_getfield (v := .int (nI pcs)) rfl (mS_o hb) rfl ?_
    refine wq_iload rfl rfl ?_
    refine wq_stat (a := [.int (nI pcs), .int (nI i)]) (rest := []) rfl rfl rfl rfl rfl ?_
    refine r_M_has (by omega) (by omega) (fun c272 => ?_) (fun c272 => ?_)
    · skip
      show WP _ _ _ _ 275 [.ref b, .int (nI a), .int (nI bb), .int (nI num), .int (nI one), .int (nI oth), .int (nI sn), .int (nI le), .int (nI gr), .int (nI i), x10] [.int (nI 1)] (mS b pre F G th pcs brs be po ro (kj pcs kf one oth i) bg en)
      refine wq_if_eq rfl (fun c => absurd c (by decide)) (fun _ => ?_)
      refine wq_iload rfl rfl ?_
      refine wq_iload rfl rfl ?_
      refine wn_ic_eq rfl (by omega) (by omega) (fun c282 => ?_) (fun c282 => ?_)
      · skip
        refine wn_inc (lv' := [.ref b, .int (nI a), .int (nI bb), .int (nI num), .int (nI one), .int (nI oth), .int (nI sn), .int (nI le), .int (nI gr), .int (nI (i + 1)), x10]) rfl rfl rfl ?_
        refine wq_goto rfl ?_
        rw [kj_f (i := i) (fun q => by exact (cJ_iff.mp q).2.1 c282)]
        exact ih (i + 1) (by omega) x10
      · skip
        refine wq_aload_n rfl rfl ?_
        refine wq_iload rfl rfl ?_
        refine wq_iload rfl rfl ?_
        refine wq_virt (b := b) (a := [.int (nI oth), .int (nI i)]) (rest := []) rfl rfl rfl rfl rfl (mS_o hb) ?_
        refine r_S_kinOf hb (by omega) (by omega) ?_
        rw [kj_at c282]
        show WP _ _ _ _ 293 [.ref b, .int (nI a), .int (nI bb), .int (nI num), .int (nI one), .int (nI oth), .int (nI sn), .int (nI le), .int (nI gr), .int (nI i), x10] [.int (nI (kf oth i))] (mS b pre F G th pcs brs be po ro (kj pcs kf one oth i) bg en)
        refine wq_aload_n rfl rfl ?_
        refine wq_iload rfl rfl ?_
        refine wq_iload rfl rfl ?_
        refine wq_virt (b := b) (a := [.int (nI one), .int (nI i)]) (rest := [.int (nI (kf oth i))]) rfl rfl rfl rfl rfl (mS_o hb) ?_
        refine r_S_kinOf hb (by omega) (by omega) ?_
        rw [kj_at c282]
        show WP _ _ _ _ 301 [.ref b, .int (nI a), .int (nI bb), .int (nI num), .int (nI one), .int (nI oth), .int (nI sn), .int (nI le), .int (nI gr), .int (nI i), x10] [.int (nI (kf one i)), .int (nI (kf oth i))] (mS b pre F G th pcs brs be po ro (kj pcs kf one oth i) bg en)
        refine wn_ic_le rfl (by omega) (by omega) (fun c301 => ?_) (fun c301 => ?_)
        · skip
          refine wn_inc (lv' := [.ref b, .int (nI a), .int (nI bb), .int (nI num), .int (nI one), .int (nI oth), .int (nI sn), .int (nI le), .int (nI gr), .int (nI (i + 1)), x10]) rfl rfl rfl ?_
          refine wq_goto rfl ?_
          rw [kj_f (i := i) (fun q => by have := (cJ_iff.mp q).2.2; omega)]
          exact ih (i + 1) (by omega) x10
        · skip
          refine wq_aload_n rfl rfl ?_
          refine wq_iload rfl rfl ?_
          refine wq_iload rfl rfl ?_
          refine wq_aload_n rfl rfl ?_
          refine wq_iload rfl rfl ?_
          refine wq_iload rfl rfl ?_
          refine wq_virt (b := b) (a := [.int (nI oth), .int (nI i)]) (rest := [.int (nI i), .int (nI one), .ref b]) rfl rfl rfl rfl rfl (mS_o hb) ?_
          refine r_S_kinOf hb (by omega) (by omega) ?_
          rw [kj_at c282]
          show WP _ _ _ _ 317 [.ref b, .int (nI a), .int (nI bb), .int (nI num), .int (nI one), .int (nI oth), .int (nI sn), .int (nI le), .int (nI gr), .int (nI i), x10] [.int (nI (kf oth i)), .int (nI i), .int (nI one), .ref b] (mS b pre F G th pcs brs be po ro (kj pcs kf one oth i) bg en)
          refine wq_virt (b := b) (a := [.int (nI one), .int (nI i), .int (nI (kf oth i))]) (rest := []) rfl rfl rfl rfl rfl (mS_o hb) ?_
          refine r_S_makesKin hb (by omega) (by omega) ?_
          show WP _ _ _ _ 320 [.ref b, .int (nI a), .int (nI bb), .int (nI num), .int (nI one), .int (nI oth), .int (nI sn), .int (nI le), .int (nI gr), .int (nI i), x10] [] (mS b pre F G th pcs brs be po ro (sK (kj pcs kf one oth i) one i (kf oth i)) bg en)
          refine wn_inc (lv' := [.ref b, .int (nI a), .int (nI bb), .int (nI num), .int (nI one), .int (nI oth), .int (nI sn), .int (nI le), .int (nI gr), .int (nI (i + 1)), x10]) rfl rfl rfl ?_
          refine wq_goto rfl ?_
          rw [kj_t (cJ_iff.mpr ⟨c272, c282, by omega⟩) rfl]
          exact ih (i + 1) (by omega) x10
    · skip
      show WP _ _ _ _ 275 [.ref b, .int (nI a), .int (nI bb), .int (nI num), .int (nI one), .int (nI oth), .int (nI sn), .int (nI le), .int (nI gr), .int (nI i), x10] [.int (nI 0)] (mS b pre F G th pcs brs be po ro (kj pcs kf one oth i) bg en)
      refine wq_if_eq rfl (fun _ => ?_) (fun c => absurd c (by decide))
      refine wn_inc (lv' := [.ref b, .int (nI a), .int (nI bb), .int (nI num), .int (nI one), .int (nI oth), .int (nI sn), .int (nI le), .int (nI gr), .int (nI (i + 1)), x10]) rfl rfl rfl ?_
      refine wq_goto rfl ?_
      rw [kj_f (i := i) (fun q => by exact absurd (cJ_iff.mp q).1 (by rw [c272]; decide))]
      exact ih (i + 1) (by omega) x10
theorem l_S_joinsP {d b : Nat} {pre : mH} {F : Nat → Nat} {G : Nat → Nat → Nat} {th pcs brs : Nat} {be po ro bg en : Nat → Nat} {kf : Nat → Nat → Nat} {Q : Option Value → mH → Prop} (hb : pre.length = b) {a bb num one oth sn le gr : Nat} (h1 : one < 9) (h2 : oth < 9) (hp : pcs < 512) (hk : ∀ p q, p < 9 → q < 9 → kf p q < 1000) (hth : th < 512) (hpo : ∀ p, p < 9 → po p < 9) (hQ : Q none (mS b pre F G th pcs brs be (pw 9 (fun p => th.testBit p && Nat.beq (po p) oth) (fun _ => one) po) ro kf bg en)) : ∀ (n i : Nat), i + n = 9 → ∀ x10 : Value, WP (Rn mprog (d + 2)) k_M_joins none Q 329 [.ref b, .int (nI a), .int (nI bb), .int (nI num), .int (nI one), .int (nI oth), .int (nI sn), .int (nI le), .int (nI gr), .int (nI i), x10] [] (mS b pre F G th pcs brs be (pw i (fun p => th.testBit p && Nat.beq (po p) oth) (fun _ => one) po) ro kf bg en) := by
  intro n
  induction n with
  | zero =>
    intro i hi x10
    have hi9 : i = 9 := by omega
    subst hi9
    refine wq_iload rfl rfl ?_
    refine wq_bipush (v := nI 9) rfl (by decide) ?_
    refine wq_ic_ge rfl (fun _ => ?_) (fun c => absurd c (by decide))
    refine wq_vret rfl rfl ?_
    exact hQ
  | succ n ih =>
    intro i hi x10
    have hpi := hpo i (by omega)
    have hpa : (pw i (fun p => th.testBit p && Nat.beq (po p) oth) (fun _ => one) po) i = po i := pw_at i _ _ _
    refine wq_iload rfl rfl ?_
    refine wq_bipush (v := nI 9) rfl (by decide) ?_
    refine wn_ic_ge rfl (by omega) (by omega) (fun c333 => absurd c333 (by omega)) (fun c333 => ?_)
    refine wq_aload_n rfl rfl ?_
    refine wq_getfield (v := .ref (b + 6)) rfl (mS_o hb) rfl ?_
    refine wq_iload rfl rfl ?_
    refine wq_aload_n rfl rfl ?_
    refine wq_getfield (v := .int (nI th)) rfl (mS_o hb) rfl ?_
    refine wq_iload rfl rfl ?_
    refine wq_stat (a := [.int (nI th), .int (nI i)]) (rest := [.int (nI i), .ref (b + 6)]) rfl rfl rfl rfl rfl ?_
    refine r_M_has (by omega) (by omega) (fun c348 => ?_) (fun c348 => ?_)
    · skip
      show WP _ _ _ _ 351 [.ref b, .int (nI a), .int (nI bb), .int (nI num), .int (nI one), .int (nI oth), .int (nI sn), .int (nI le), .int (nI gr), .int (nI i), x10] [.int (nI 1), .int (nI i), .ref (b + 6)] (mS b pre F G th pcs brs be (pw i (fun p => th.testBit p && Nat.beq (po p) oth) (fun _ => one) po) ro kf bg en)
      refine wq_if_eq rfl (fun c => absurd c (by decide)) (fun _ => ?_)
      refine wq_aload_n rfl rfl ?_
      refine wq_getfield (v := .ref (b + 6)) rfl (mS_o hb) rfl ?_
      refine wq_iload rfl rfl ?_
      refine wn_iaload (g := (pw i (fun p => th.testBit p && Nat.beq (po p) oth) (fun _ => one) po)) rfl (mS_a10 hb) (by omega) (by decide) ?_
      refine wq_iload rfl rfl ?_
      have hpb : (pw i (fun p => th.testBit p && Nat.beq (po p) oth) (fun _ => one) po) i < 9 := by rw [hpa]; exact hpi
      refine wn_ic_ne rfl (by omega) (by omega) (fun c363 => ?_) (fun c363 => ?_)
      · skip
        refine wq_aload_n rfl rfl ?_
        refine wq_getfield (v := .ref (b + 6)) rfl (mS_o hb) rfl ?_
        refine wq_iload rfl rfl ?_
        refine wn_iaload (g := (pw i (fun p => th.testBit p && Nat.beq (po p) oth) (fun _ => one) po)) rfl (mS_a10 hb) (by omega) (by decide) ?_
        refine wn_iastore (g := (pw i (fun p => th.testBit p && Nat.beq (po p) oth) (fun _ => one) po)) (h' := mS b pre F G th pcs brs be (uN' ((pw i (fun p => th.testBit p && Nat.beq (po p) oth) (fun _ => one) po)) i (((pw i (fun p => th.testBit p && Nat.beq (po p) oth) (fun _ => one) po)) i)) ro kf bg en) rfl (mS_a10 hb) (by omega) (by decide) (mS_t10 hb) ?_
        refine wn_inc (lv' := [.ref b, .int (nI a), .int (nI bb), .int (nI num), .int (nI one), .int (nI oth), .int (nI sn), .int (nI le), .int (nI gr), .int (nI (i + 1)), x10]) rfl rfl rfl ?_
        refine wq_goto rfl ?_
        rw [hpa] at c363
        have hne : Nat.beq (po i) oth = false := by
          cases q : Nat.beq (po i) oth
          · rfl
          · exact absurd (Nat.eq_of_beq_eq_true q) c363
        rw [pw_s (by rw [hpa, c348, hne]; rfl)]
        exact ih (i + 1) (by omega) x10
      · skip
        refine wq_iload rfl rfl ?_
        refine wq_goto rfl ?_
        refine wn_iastore (g := (pw i (fun p => th.testBit p && Nat.beq (po p) oth) (fun _ => one) po)) (h' := mS b pre F G th pcs brs be (uN' ((pw i (fun p => th.testBit p && Nat.beq (po p) oth) (fun _ => one) po)) i one) ro kf bg en) rfl (mS_a10 hb) (by omega) (by decide) (mS_t10 hb) ?_
        refine wn_inc (lv' := [.ref b, .int (nI a), .int (nI bb), .int (nI num), .int (nI one), .int (nI oth), .int (nI sn), .int (nI le), .int (nI gr), .int (nI (i + 1)), x10]) rfl rfl rfl ?_
        refine wq_goto rfl ?_
        rw [hpa] at c363
        rw [pw_s (by rw [c348, c363]; simp)]
        exact ih (i + 1) (by omega) x10
    · skip
      show WP _ _ _ _ 351 [.ref b, .int (nI a), .int (nI bb), .int (nI num), .int (nI one), .int (nI oth), .int (nI sn), .int (nI le), .int (nI gr), .int (nI i), x10] [.int (nI 0), .int (nI i), .ref (b + 6)] (mS b pre F G th pcs brs be (pw i (fun p => th.testBit p && Nat.beq (po p) oth) (fun _ => one) po) ro kf bg en)
      refine wq_if_eq rfl (fun _ => ?_) (fun c => absurd c (by decide))
      refine wq_aload_n rfl rfl ?_
      refine wq_getfield (v := .ref (b + 6)) rfl (mS_o hb) rfl ?_
      refine wq_iload rfl rfl ?_
      refine wn_iaload (g := (pw i (fun p => th.testBit p && Nat.beq (po p) oth) (fun _ => one) po)) rfl (mS_a10 hb) (by omega) (by decide) ?_
      refine wn_iastore (g := (pw i (fun p => th.testBit p && Nat.beq (po p) oth) (fun _ => one) po)) (h' := mS b pre F G th pcs brs be (uN' ((pw i (fun p => th.testBit p && Nat.beq (po p) oth) (fun _ => one) po)) i (((pw i (fun p => th.testBit p && Nat.beq (po p) oth) (fun _ => one) po)) i)) ro kf bg en) rfl (mS_a10 hb) (by omega) (by decide) (mS_t10 hb) ?_
      refine wn_inc (lv' := [.ref b, .int (nI a), .int (nI bb), .int (nI num), .int (nI one), .int (nI oth), .int (nI sn), .int (nI le), .int (nI gr), .int (nI (i + 1)), x10]) rfl rfl rfl ?_
      refine wq_goto rfl ?_
      rw [pw_s (by rw [hpa, c348]; rfl)]
      exact ih (i + 1) (by omega) x10
end
section
/-! the reference's story: joins, does, runs -/
theorem l_S_joinsR' {d b : Nat} {pre : mH} {F : Nat → Nat} {G : Nat → Nat → Nat} {th pcs brs : Nat} {be po ro bg en : Nat → Nat} {kf : Nat → Nat → Nat} {Q : Option Value → mH → Prop} (hb : pre.length = b) {a bb num one oth sn le gr : Nat} (h1 : one < 9) (h2 : oth < 9) (hp : pcs < 512) (hk : ∀ p q, p < 9 → q < 9 → kf p q < 1000) (k : ∀ x9 x10 : Value, WP (Rn mprog (d + 2)) k_M_joins none Q 231 [.ref b, .int (nI a), .int (nI bb), .int (nI num), .int (nI one), .int (nI oth), .int (nI sn), .int (nI le), .int (nI gr), x9, x10] [] (mS b pre F G th pcs brs be po (pw 9 (isR pcs kf one oth) (fun _ => le) ro) kf bg en)) (x10 : Value) : WP (Rn mprog (d + 2)) k_M_joins none Q 139 [.ref b, .int (nI a), .int (nI bb), .int (nI num), .int (nI one), .int (nI oth), .int (nI sn), .int (nI le), .int (nI gr), .int (nI 0), x10] [] (mS b pre F G th pcs brs be po ro kf bg en) := by
  have q := l_S_joinsR (d := d) hb h1 h2 hp hk k 9 0 x10 rfl
  rw [pw_0] at q
  exact q
theorem l_S_joinsK' {d b : Nat} {pre : mH} {F : Nat → Nat} {G : Nat → Nat → Nat} {th pcs brs : Nat} {be po ro bg en : Nat → Nat} {kf : Nat → Nat → Nat} {Q : Option Value → mH → Prop} (hb : pre.length = b) {a bb num one oth sn le gr : Nat} (h1 : one < 9) (h2 : oth < 9) (hp : pcs < 512) (hk : ∀ p q, p < 9 → q < 9 → kf p q < 1000) (k : ∀ x9 x10 : Value, WP (Rn mprog (d + 2)) k_M_joins none Q 326 [.ref b, .int (nI a), .int (nI bb), .int (nI num), .int (nI one), .int (nI oth), .int (nI sn), .int (nI le), .int (nI gr), x9, x10] [] (mS b pre F G th pcs brs be po ro (kj pcs kf one oth 9) bg en)) (x10 : Value) : WP (Rn mprog (d + 2)) k_M_joins none Q 259 [.ref b, .int (nI a), .int (nI bb), .int (nI num), .int (nI one), .int (nI oth), .int (nI sn), .int (nI le), .int (nI gr), .int (nI 0), x10] [] (mS b pre F G th pcs brs be po ro kf bg en) := by
  have q := l_S_joinsK (d := d) hb h1 h2 hp hk k 9 0 rfl x10
  rw [kj_0] at q
  exact q
theorem l_S_joinsP' {d b : Nat} {pre : mH} {F : Nat → Nat} {G : Nat → Nat → Nat} {th pcs brs : Nat} {be po ro bg en : Nat → Nat} {kf : Nat → Nat → Nat} {Q : Option Value → mH → Prop} (hb : pre.length = b) {a bb num one oth sn le gr : Nat} (h1 : one < 9) (h2 : oth < 9) (hp : pcs < 512) (hk : ∀ p q, p < 9 → q < 9 → kf p q < 1000) (hth : th < 512) (hpo : ∀ p, p < 9 → po p < 9) (hQ : Q none (mS b pre F G th pcs brs be (pw 9 (fun p => th.testBit p && Nat.beq (po p) oth) (fun _ => one) po) ro kf bg en)) (x10 : Value) : WP (Rn mprog (d + 2)) k_M_joins none Q 329 [.ref b, .int (nI a), .int (nI bb), .int (nI num), .int (nI one), .int (nI oth), .int (nI sn), .int (nI le), .int (nI gr), .int (nI 0), x10] [] (mS b pre F G th pcs brs be po ro kf bg en) := by
  have q := l_S_joinsP (d := d) (a := a) (bb := bb) (num := num) (sn := sn) (le := le) (gr := gr) hb h1 h2 hp hk hth hpo hQ 9 0 rfl x10
  rw [pw_0] at q
  exact q
theorem kb_lt {pcs : Nat} {kf : Nat → Nat → Nat} {one oth c i j m : Nat} (h1 : one < 9) (h2 : oth < 9) (hk : ∀ p q, p < 9 → q < 9 → kf p q < m) : ∀ p q, p < 9 → q < 9 → kb pcs kf one oth c i j p q < m := by
  intro p q hp hq
  unfold kb
  have a1 := hk one p h1 hp
  have a2 := hk one q h1 hq
  have a3 := hk p q hp hq
  split
  · exact Nat.lt_of_le_of_lt (Nat.min_le_left _ _) a1
  · split
    · exact Nat.lt_of_le_of_lt (Nat.min_le_left _ _) a2
    · exact a3
def beJ (be : Nat → Nat) (a bb : Nat) : Nat → Nat := uN' (uN' be a (be a ||| 1 <<< bb)) bb (uN' be a (be a ||| 1 <<< bb) bb ||| 1 <<< a)
theorem kj_lt {pcs : Nat} {kf : Nat → Nat → Nat} {one oth i m : Nat} (h1 : one < 9) (h2 : oth < 9) (hk : ∀ p q, p < 9 → q < 9 → kf p q < m) : ∀ p q, p < 9 → q < 9 → kj pcs kf one oth i p q < m := by
  intro p q hp hq
  unfold kj
  split
  · exact hk oth q h2 hq
  · split
    · exact hk oth p h2 hp
    · exact hk p q hp hq
theorem r_S_joins {d b : Nat} {pre : mH} {F : Nat → Nat} {G : Nat → Nat → Nat} {th pcs brs : Nat} {be po ro bg en : Nat → Nat} {kf : Nat → Nat → Nat} {Q : Option Value → mH → Prop} (hb : pre.length = b) {a bb num : Nat} (ha : a < 9) (hbb : bb < 9) (hab : a ≠ bb) (hth : th < 512) (hp : pcs < 512) (hbr : brs < 60) (hpo : ∀ p, p < 9 → po p < 9) (hro : ∀ p, p < 9 → ro p < 1000) (hk : ∀ p q, p < 9 → q < 9 → kf p q < 1000) (hex : ∀ x, bA pcs kf (po a) (po bb) (kf (po a) (po bb)) x = true → bB pcs kf (po a) (po bb) (kf (po a) (po bb)) x = true → False) (hQ1 : po a = po bb → Q none (mS b pre F G th pcs brs (beJ be a bb) po ro kf bg en)) (hQ2 : po a ≠ po bb → Q none (mS b pre F G th (nd pcs (1 <<< (po bb))) (brs + 1) (beJ be a bb) (pw 9 (fun p => th.testBit p && Nat.beq (po p) (po bb)) (fun _ => po a) po) (if kf (po a) (po bb) = 0 then pw 9 (isR pcs kf (po a) (po bb)) (fun _ => min (ro (po a)) (ro (po bb))) ro else ro) (kj (nd pcs (1 <<< (po bb))) (kb pcs kf (po a) (po bb) (kf (po a) (po bb)) 9 0) (po a) (po bb) 9) (uN' bg brs (if 0 < kf (po a) (po bb) then kf (po a) (po bb) else ro (po a) + ro (po bb) - min (ro (po a)) (ro (po bb)))) (uN' en brs num))) : Rn mprog (d + 3) n_M_joins [.ref b, .int (nI a), .int (nI bb), .int (nI num)] (mS b pre F G th pcs brs be po ro kf bg en) Q := by
  refine Rn.in rfl rfl rfl ?_
  show WP _ _ _ _ 0 [.ref b, .int (nI a), .int (nI bb), .int (nI num), .long 0, .long 0, .long 0, .long 0, .long 0, .long 0, .long 0] [] (mS b pre F G th pcs brs be po ro kf bg en)
  have hsa := Nat.lt_trans (sh_lt (n := 9) ha) (show 2 ^ 9 < 2 ^ 32 by decide)
  have hsb := Nat.lt_trans (sh_lt (n := 9) hbb) (show 2 ^ 9 < 2 ^ 32 by decide)
  have hp1 := hpo a ha
  have hp2 := hpo bb hbb
  have hr1 := hro _ hp1
  have hr2 := hro _ hp2
  have hk12 := hk _ _ hp1 hp2
  have hso := Nat.lt_trans (sh_lt (n := 9) hp2) (show 2 ^ 9 < 2 ^ 32 by decide)
  refine wq_aload_n rfl rfl ?_
  refine wq_getfield (v := .ref (b + 5)) rfl (mS_o hb) rfl ?_
  refine wq_iload_n rfl rfl ?_
  refine wq_dup2 rfl rfl rfl ?_
  refine wn_iaload (g := be) rfl (mS_a9 hb) (by omega) (by decide) ?_
  refine wq_iconst (v := nI 1) rfl (by decide) ?_
  refine wq_iload_n rfl rfl ?_
  refine wn_ishl rfl (by omega) hsb ?_
  refine wn_ior rfl ?_
  refine wn_iastore (g := be) (h' := mS b pre F G th pcs brs (uN' be a ((be a) ||| (1 <<< bb))) po ro kf bg en) rfl (mS_a9 hb) (by omega) (by decide) (mS_t9 hb) ?_
  refine wq_aload_n rfl rfl ?_
  refine wq_getfield (v := .ref (b + 5)) rfl (mS_o hb) rfl ?_
  refine wq_iload_n rfl rfl ?_
  refine wq_dup2 rfl rfl rfl ?_
  refine wn_iaload (g := (uN' be a ((be a) ||| (1 <<< bb)))) rfl (mS_a9 hb) (by omega) (by decide) ?_
  refine wq_iconst (v := nI 1) rfl (by decide) ?_
  refine wq_iload_n rfl rfl ?_
  refine wn_ishl rfl (by omega) hsa ?_
  refine wn_ior rfl ?_
  refine wn_iastore (g := (uN' be a ((be a) ||| (1 <<< bb)))) (h' := mS b pre F G th pcs brs (uN' ((uN' be a ((be a) ||| (1 <<< bb)))) bb ((((uN' be a ((be a) ||| (1 <<< bb)))) bb) ||| (1 <<< a))) po ro kf bg en) rfl (mS_a9 hb) (by omega) (by decide) (mS_t9 hb) ?_
  refine wq_aload_n rfl rfl ?_
  refine wq_getfield (v := .ref (b + 6)) rfl (mS_o hb) rfl ?_
  refine wq_iload_n rfl rfl ?_
  refine wn_iaload (g := po) rfl (mS_a10 hb) (by omega) (by decide) ?_
  refine wq_istore (lv' := [.ref b, .int (nI a), .int (nI bb), .int (nI num), .int (nI (po a)), .long 0, .long 0, .long 0, .long 0, .long 0, .long 0]) rfl rfl rfl ?_
  refine wq_aload_n rfl rfl ?_
  refine wq_getfield (v := .ref (b + 6)) rfl (mS_o hb) rfl ?_
  refine wq_iload_n rfl rfl ?_
  refine wn_iaload (g := po) rfl (mS_a10 hb) (by omega) (by decide) ?_
  refine wq_istore (lv' := [.ref b, .int (nI a), .int (nI bb), .int (nI num), .int (nI (po a)), .int (nI (po bb)), .long 0, .long 0, .long 0, .long 0, .long 0]) rfl rfl rfl ?_
  refine wq_iload rfl rfl ?_
  refine wq_iload rfl rfl ?_
  refine wn_ic_ne rfl (by omega) (by omega) (fun c44 => ?_) (fun c44 => ?_)
  · skip
    refine wq_aload_n rfl rfl ?_
    refine wq_iload rfl rfl ?_
    refine wq_iload rfl rfl ?_
    refine wq_virt (b := b) (a := [.int (nI (po a)), .int (nI (po bb))]) (rest := []) rfl rfl rfl rfl rfl (mS_o hb) ?_
    refine r_S_kinOf hb (by omega) (by omega) ?_
    show WP _ _ _ _ 56 [.ref b, .int (nI a), .int (nI bb), .int (nI num), .int (nI (po a)), .int (nI (po bb)), .long 0, .long 0, .long 0, .long 0, .long 0] [.int (nI (kf (po a) (po bb)))] (mS b pre F G th pcs brs (uN' ((uN' be a ((be a) ||| (1 <<< bb)))) bb ((((uN' be a ((be a) ||| (1 <<< bb)))) bb) ||| (1 <<< a))) po ro kf bg en)
    refine wq_istore (lv' := [.ref b, .int (nI a), .int (nI bb), .int (nI num), .int (nI (po a)), .int (nI (po bb)), .int (nI (kf (po a) (po bb))), .long 0, .long 0, .long 0, .long 0]) rfl rfl rfl ?_
    have K92 : WP (Rn mprog (d + 2)) k_M_joins none Q 92 [.ref b, .int (nI a), .int (nI bb), .int (nI num), .int (nI (po a)), .int (nI (po bb)), .int (nI (kf (po a) (po bb))), .long 0, .long 0, .long 0, .long 0] [.int (nI (min (ro (po a)) (ro (po bb))))] (mS b pre F G th pcs brs (uN' ((uN' be a ((be a) ||| (1 <<< bb)))) bb ((((uN' be a ((be a) ||| (1 <<< bb)))) bb) ||| (1 <<< a))) po ro kf bg en) := by
      refine wq_istore (lv' := [.ref b, .int (nI a), .int (nI bb), .int (nI num), .int (nI (po a)), .int (nI (po bb)), .int (nI (kf (po a) (po bb))), .int (nI (min (ro (po a)) (ro (po bb)))), .long 0, .long 0, .long 0]) rfl rfl rfl ?_
      refine wq_aload_n rfl rfl ?_
      refine wq_getfield (v := .ref (b + 7)) rfl (mS_o hb) rfl ?_
      refine wq_iload rfl rfl ?_
      refine wn_iaload (g := ro) rfl (mS_a12 hb) (by omega) (by decide) ?_
      refine wq_aload_n rfl rfl ?_
      refine wq_getfield (v := .ref (b + 7)) rfl (mS_o hb) rfl ?_
      refine wq_iload rfl rfl ?_
      refine wn_iaload (g := ro) rfl (mS_a12 hb) (by omega) (by decide) ?_
      refine wn_iadd rfl ?_
      refine wq_iload rfl rfl ?_
      refine wn_isub rfl (by omega) ?_
      refine wq_istore (lv' := [.ref b, .int (nI a), .int (nI bb), .int (nI num), .int (nI (po a)), .int (nI (po bb)), .int (nI (kf (po a) (po bb))), .int (nI (min (ro (po a)) (ro (po bb)))), .int (nI (((ro (po a)) + (ro (po bb))) - (min (ro (po a)) (ro (po bb))))), .long 0, .long 0]) rfl rfl rfl ?_
      have K127 : WP (Rn mprog (d + 2)) k_M_joins none Q 127 [.ref b, .int (nI a), .int (nI bb), .int (nI num), .int (nI (po a)), .int (nI (po bb)), .int (nI (kf (po a) (po bb))), .int (nI (min (ro (po a)) (ro (po bb)))), .int (nI (((ro (po a)) + (ro (po bb))) - (min (ro (po a)) (ro (po bb))))), .long 0, .long 0] [.int (nI (if 0 < kf (po a) (po bb) then kf (po a) (po bb) else ro (po a) + ro (po bb) - min (ro (po a)) (ro (po bb)))), .ref b] (mS b pre F G th pcs brs (uN' ((uN' be a ((be a) ||| (1 <<< bb)))) bb ((((uN' be a ((be a) ||| (1 <<< bb)))) bb) ||| (1 <<< a))) po ro kf bg en) := by
        refine wq_iload_n rfl rfl ?_
        refine wq_virt (b := b) (a := [.int (nI (if 0 < kf (po a) (po bb) then kf (po a) (po bb) else ro (po a) + ro (po bb) - min (ro (po a)) (ro (po bb)))), .int (nI num)]) (rest := []) rfl rfl rfl rfl rfl (mS_o hb) ?_
        refine r_S_ends hb (by omega) ?_
        show WP _ _ _ _ 131 [.ref b, .int (nI a), .int (nI bb), .int (nI num), .int (nI (po a)), .int (nI (po bb)), .int (nI (kf (po a) (po bb))), .int (nI (min (ro (po a)) (ro (po bb)))), .int (nI (((ro (po a)) + (ro (po bb))) - (min (ro (po a)) (ro (po bb))))), .long 0, .long 0] [] (mS b pre F G th pcs (brs + 1) (uN' ((uN' be a ((be a) ||| (1 <<< bb)))) bb ((((uN' be a ((be a) ||| (1 <<< bb)))) bb) ||| (1 <<< a))) po ro kf (uN' bg brs (if 0 < kf (po a) (po bb) then kf (po a) (po bb) else ro (po a) + ro (po bb) - min (ro (po a)) (ro (po bb)))) (uN' en brs num))
        have K231 : ∀ x9 x10 : Value, WP (Rn mprog (d + 2)) k_M_joins none Q 231 [.ref b, .int (nI a), .int (nI bb), .int (nI num), .int (nI (po a)), .int (nI (po bb)), .int (nI (kf (po a) (po bb))), .int (nI (min (ro (po a)) (ro (po bb)))), .int (nI (((ro (po a)) + (ro (po bb))) - (min (ro (po a)) (ro (po bb))))), x9, x10] [] (mS b pre F G th pcs (brs + 1) (uN' ((uN' be a ((be a) ||| (1 <<< bb)))) bb ((((uN' be a ((be a) ||| (1 <<< bb)))) bb) ||| (1 <<< a))) po (if kf (po a) (po bb) = 0 then pw 9 (isR pcs kf (po a) (po bb)) (fun _ => min (ro (po a)) (ro (po bb))) ro else ro) kf (uN' bg brs (if 0 < kf (po a) (po bb) then kf (po a) (po bb) else ro (po a) + ro (po bb) - min (ro (po a)) (ro (po bb)))) (uN' en brs num)) := by
          intro x9 x10
          refine wq_aload_n rfl rfl ?_
          refine wq_iload rfl rfl ?_
          refine wq_iload rfl rfl ?_
          refine wq_iload rfl rfl ?_
          refine wq_virt (b := b) (a := [.int (nI (po a)), .int (nI (po bb)), .int (nI (kf (po a) (po bb)))]) (rest := []) rfl rfl rfl rfl rfl (mS_o hb) ?_
          refine r_S_binds hb (by omega) (by omega) (by omega) hp hk hex ?_
          show WP _ _ _ _ 241 [.ref b, .int (nI a), .int (nI bb), .int (nI num), .int (nI (po a)), .int (nI (po bb)), .int (nI (kf (po a) (po bb))), .int (nI (min (ro (po a)) (ro (po bb)))), .int (nI (((ro (po a)) + (ro (po bb))) - (min (ro (po a)) (ro (po bb))))), x9, x10] [] (mS b pre F G th pcs (brs + 1) (uN' ((uN' be a ((be a) ||| (1 <<< bb)))) bb ((((uN' be a ((be a) ||| (1 <<< bb)))) bb) ||| (1 <<< a))) po (if kf (po a) (po bb) = 0 then pw 9 (isR pcs kf (po a) (po bb)) (fun _ => min (ro (po a)) (ro (po bb))) ro else ro) (kb pcs kf (po a) (po bb) (kf (po a) (po bb)) 9 0) (uN' bg brs (if 0 < kf (po a) (po bb) then kf (po a) (po bb) else ro (po a) + ro (po bb) - min (ro (po a)) (ro (po bb)))) (uN' en brs num))
          refine wq_aload_n rfl rfl ?_
          refine wq_dup rfl rfl ?_
          refine wq_getfield (v := .int (nI pcs)) rfl (mS_o hb) rfl ?_
          refine wq_iconst (v := nI 1) rfl (by decide) ?_
          refine wq_iload rfl rfl ?_
          refine wn_ishl rfl (by omega) hso ?_
          refine wq_iconst (v := (-1)) rfl (by decide) ?_
          refine wq_ixor (v := (nI (1 <<< (po bb)) ^^^ (-1))) rfl rfl ?_
          refine wn_andn rfl ?_
          refine wq_putfield (h' := mS b pre F G th (nd pcs (1 <<< (po bb))) (brs + 1) (uN' ((uN' be a ((be a) ||| (1 <<< bb)))) bb ((((uN' be a ((be a) ||| (1 <<< bb)))) bb) ||| (1 <<< a))) po (if kf (po a) (po bb) = 0 then pw 9 (isR pcs kf (po a) (po bb)) (fun _ => min (ro (po a)) (ro (po bb))) ro else ro) (kb pcs kf (po a) (po bb) (kf (po a) (po bb)) 9 0) (uN' bg brs (if 0 < kf (po a) (po bb) then kf (po a) (po bb) else ro (po a) + ro (po bb) - min (ro (po a)) (ro (po bb)))) (uN' en brs num)) rfl (mS_o hb) rfl (mS_s11 hb) ?_
          refine wq_iconst (v := nI 0) rfl (by decide) ?_
          refine wq_istore (lv' := [.ref b, .int (nI a), .int (nI bb), .int (nI num), .int (nI (po a)), .int (nI (po bb)), .int (nI (kf (po a) (po bb))), .int (nI (min (ro (po a)) (ro (po bb)))), .int (nI (((ro (po a)) + (ro (po bb))) - (min (ro (po a)) (ro (po bb))))), .int (nI 0), x10]) rfl rfl rfl ?_
          refine l_S_joinsK' (kf := kb pcs kf (po a) (po bb) (kf (po a) (po bb)) 9 0) hb hp1 hp2 (nd_lt (n := 9) hp) (kb_lt hp1 hp2 hk) (fun x9 x10 => ?_) _
          refine wq_iconst (v := nI 0) rfl (by decide) ?_
          refine wq_istore (lv' := [.ref b, .int (nI a), .int (nI bb), .int (nI num), .int (nI (po a)), .int (nI (po bb)), .int (nI (kf (po a) (po bb))), .int (nI (min (ro (po a)) (ro (po bb)))), .int (nI (((ro (po a)) + (ro (po bb))) - (min (ro (po a)) (ro (po bb))))), .int (nI 0), x10]) rfl rfl rfl ?_
          exact l_S_joinsP' (pcs := nd pcs (1 <<< (po bb))) (kf := kj (nd pcs (1 <<< (po bb))) (kb pcs kf (po a) (po bb) (kf (po a) (po bb)) 9 0) (po a) (po bb) 9) hb hp1 hp2 (nd_lt (n := 9) hp) (kj_lt hp1 hp2 (kb_lt hp1 hp2 hk)) hth hpo (hQ2 c44) _
        refine wq_iload rfl rfl ?_
        refine wn_if_ne rfl (by omega) (fun c133 => ?_) (fun c133 => ?_)
        · skip
          have K := K231 (.long 0) (.long 0)
          rw [if_neg c133] at K
          exact K
        · skip
          refine wq_iconst (v := nI 0) rfl (by decide) ?_
          refine wq_istore (lv' := [.ref b, .int (nI a), .int (nI bb), .int (nI num), .int (nI (po a)), .int (nI (po bb)), .int (nI (kf (po a) (po bb))), .int (nI (min (ro (po a)) (ro (po bb)))), .int (nI (((ro (po a)) + (ro (po bb))) - (min (ro (po a)) (ro (po bb))))), .int (nI 0), .long 0]) rfl rfl rfl ?_
          refine l_S_joinsR' hb hp1 hp2 hp hk (fun x9 x10 => ?_) _
          have K := K231 x9 x10
          rw [if_pos c133] at K
          exact K
      refine wq_aload_n rfl rfl ?_
      refine wq_iload rfl rfl ?_
      refine wn_if_le rfl (by omega) (fun c117 => ?_) (fun c117 => ?_)
      · skip
        refine wq_iload rfl rfl ?_
        rw [if_neg (by omega)] at K127
        exact K127
      · skip
        refine wq_iload rfl rfl ?_
        refine wq_goto rfl ?_
        rw [if_pos c117] at K127
        exact K127
    refine wq_aload_n rfl rfl ?_
    refine wq_getfield (v := .ref (b + 7)) rfl (mS_o hb) rfl ?_
    refine wq_iload rfl rfl ?_
    refine wn_iaload (g := ro) rfl (mS_a12 hb) (by omega) (by decide) ?_
    refine wq_aload_n rfl rfl ?_
    refine wq_getfield (v := .ref (b + 7)) rfl (mS_o hb) rfl ?_
    refine wq_iload rfl rfl ?_
    refine wn_iaload (g := ro) rfl (mS_a12 hb) (by omega) (by decide) ?_
    refine wn_ic_ge rfl (by omega) (by omega) (fun c72 => ?_) (fun c72 => ?_)
    · skip
      refine wq_aload_n rfl rfl ?_
      refine wq_getfield (v := .ref (b + 7)) rfl (mS_o hb) rfl ?_
      refine wq_iload rfl rfl ?_
      refine wn_iaload (g := ro) rfl (mS_a12 hb) (by omega) (by decide) ?_
      have e : ro (po bb) = min (ro (po a)) (ro (po bb)) := by omega
      rw [e]
      exact K92
    · skip
      refine wq_aload_n rfl rfl ?_
      refine wq_getfield (v := .ref (b + 7)) rfl (mS_o hb) rfl ?_
      refine wq_iload rfl rfl ?_
      refine wn_iaload (g := ro) rfl (mS_a12 hb) (by omega) (by decide) ?_
      refine wq_goto rfl ?_
      have e : ro (po a) = min (ro (po a)) (ro (po bb)) := by omega
      rw [e]
      exact K92
  · skip
    refine wq_vret rfl rfl ?_
    exact hQ1 c44
end
section
/-! windows of the class; members of the JDK; Net -/
def nW (b : Nat) (pre : mH) (pts : Nat) (edg : Nat) (nr : Nat → Nat) (suf : mH) : mH := pre ++ (.inr (2, [.ref (b + 1), .int (nI pts), .int (nI edg)]) :: .inl (0, 9, .inl (nA nr)) :: suf)
theorem nW_o0 {b : Nat} {pre suf : mH} {pts : Nat} {edg : Nat} {nr : Nat → Nat} (hb : pre.length = b) : (nW b pre pts edg nr suf)[b]? = some (.inr (2, [.ref (b + 1), .int (nI pts), .int (nI edg)])) := ap_get0 hb
theorem nW_s0_1 {b : Nat} {pre suf : mH} {pts : Nat} {edg : Nat} {nr : Nat → Nat} (hb : pre.length = b) {v : Nat} : (nW b pre pts edg nr suf).set (b) (.inr (2, [.ref (b + 1), .int (nI pts), .int (nI edg)].set 1 (.int (nI v)))) = nW b pre v edg nr suf := ap_set0 hb
theorem nW_s0_2 {b : Nat} {pre suf : mH} {pts : Nat} {edg : Nat} {nr : Nat → Nat} (hb : pre.length = b) {v : Nat} : (nW b pre pts edg nr suf).set (b) (.inr (2, [.ref (b + 1), .int (nI pts), .int (nI edg)].set 2 (.int (nI v)))) = nW b pre pts v nr suf := ap_set0 hb
theorem nW_a1 {b : Nat} {pre suf : mH} {pts : Nat} {edg : Nat} {nr : Nat → Nat} (hb : pre.length = b) : (nW b pre pts edg nr suf)[b + 1]? = some (.inl (0, 9, .inl (nA nr))) := ap_get hb
theorem nW_t1 {b : Nat} {pre suf : mH} {pts : Nat} {edg : Nat} {nr : Nat → Nat} (hb : pre.length = b) {g : Nat → Nat} : (nW b pre pts edg nr suf).set (b + 1) (.inl (0, 9, .inl (nA g))) = nW b pre pts edg g suf := ap_set hb
def kW (b : Nat) (pre : mH) (rt : Nat → Nat) (sc : Nat → Nat → Nat) (wf : Nat → Nat) (ws : Nat → Nat) (suf : mH) : mH := pre ++ (.inr (1, [.ref (b + 1), .ref (b + 2), .ref (b + 3), .ref (b + 4)]) :: .inl (0, 9, .inl (nA rt)) :: .inl (0, 81, .inl (nA (K2 sc))) :: .inl (0, 9, .inl (nA wf)) :: .inl (0, 9, .inl (nA ws)) :: suf)
theorem kW_o0 {b : Nat} {pre suf : mH} {rt : Nat → Nat} {sc : Nat → Nat → Nat} {wf : Nat → Nat} {ws : Nat → Nat} (hb : pre.length = b) : (kW b pre rt sc wf ws suf)[b]? = some (.inr (1, [.ref (b + 1), .ref (b + 2), .ref (b + 3), .ref (b + 4)])) := ap_get0 hb
theorem kW_a1 {b : Nat} {pre suf : mH} {rt : Nat → Nat} {sc : Nat → Nat → Nat} {wf : Nat → Nat} {ws : Nat → Nat} (hb : pre.length = b) : (kW b pre rt sc wf ws suf)[b + 1]? = some (.inl (0, 9, .inl (nA rt))) := ap_get hb
theorem kW_t1 {b : Nat} {pre suf : mH} {rt : Nat → Nat} {sc : Nat → Nat → Nat} {wf : Nat → Nat} {ws : Nat → Nat} (hb : pre.length = b) {g : Nat → Nat} : (kW b pre rt sc wf ws suf).set (b + 1) (.inl (0, 9, .inl (nA g))) = kW b pre g sc wf ws suf := ap_set hb
theorem kW_a2 {b : Nat} {pre suf : mH} {rt : Nat → Nat} {sc : Nat → Nat → Nat} {wf : Nat → Nat} {ws : Nat → Nat} (hb : pre.length = b) : (kW b pre rt sc wf ws suf)[b + 2]? = some (.inl (0, 81, .inl (nA (K2 sc)))) := ap_get hb
theorem kW_a3 {b : Nat} {pre suf : mH} {rt : Nat → Nat} {sc : Nat → Nat → Nat} {wf : Nat → Nat} {ws : Nat → Nat} (hb : pre.length = b) : (kW b pre rt sc wf ws suf)[b + 3]? = some (.inl (0, 9, .inl (nA wf))) := ap_get hb
theorem kW_t3 {b : Nat} {pre suf : mH} {rt : Nat → Nat} {sc : Nat → Nat → Nat} {wf : Nat → Nat} {ws : Nat → Nat} (hb : pre.length = b) {g : Nat → Nat} : (kW b pre rt sc wf ws suf).set (b + 3) (.inl (0, 9, .inl (nA g))) = kW b pre rt sc g ws suf := ap_set hb
theorem kW_a4 {b : Nat} {pre suf : mH} {rt : Nat → Nat} {sc : Nat → Nat → Nat} {wf : Nat → Nat} {ws : Nat → Nat} (hb : pre.length = b) : (kW b pre rt sc wf ws suf)[b + 4]? = some (.inl (0, 9, .inl (nA ws))) := ap_get hb
theorem kW_t4 {b : Nat} {pre suf : mH} {rt : Nat → Nat} {sc : Nat → Nat → Nat} {wf : Nat → Nat} {ws : Nat → Nat} (hb : pre.length = b) {g : Nat → Nat} : (kW b pre rt sc wf ws suf).set (b + 4) (.inl (0, 9, .inl (nA g))) = kW b pre rt sc wf g suf := ap_set hb
def bW (b : Nat) (pre : mH) (bsz : Nat) (bop : Nat) (bbg : Nat → Nat) (ben : Nat → Nat) (suf : mH) : mH := pre ++ (.inr (0, [.ref (b + 1), .ref (b + 2), .int (nI bsz), .int (nI bop)]) :: .inl (0, 40, .inl (nA bbg)) :: .inl (0, 40, .inl (nA ben)) :: suf)
theorem bW_o0 {b : Nat} {pre suf : mH} {bsz : Nat} {bop : Nat} {bbg : Nat → Nat} {ben : Nat → Nat} (hb : pre.length = b) : (bW b pre bsz bop bbg ben suf)[b]? = some (.inr (0, [.ref (b + 1), .ref (b + 2), .int (nI bsz), .int (nI bop)])) := ap_get0 hb
theorem bW_s0_2 {b : Nat} {pre suf : mH} {bsz : Nat} {bop : Nat} {bbg : Nat → Nat} {ben : Nat → Nat} (hb : pre.length = b) {v : Nat} : (bW b pre bsz bop bbg ben suf).set (b) (.inr (0, [.ref (b + 1), .ref (b + 2), .int (nI bsz), .int (nI bop)].set 2 (.int (nI v)))) = bW b pre v bop bbg ben suf := ap_set0 hb
theorem bW_s0_3 {b : Nat} {pre suf : mH} {bsz : Nat} {bop : Nat} {bbg : Nat → Nat} {ben : Nat → Nat} (hb : pre.length = b) {v : Nat} : (bW b pre bsz bop bbg ben suf).set (b) (.inr (0, [.ref (b + 1), .ref (b + 2), .int (nI bsz), .int (nI bop)].set 3 (.int (nI v)))) = bW b pre bsz v bbg ben suf := ap_set0 hb
theorem bW_a1 {b : Nat} {pre suf : mH} {bsz : Nat} {bop : Nat} {bbg : Nat → Nat} {ben : Nat → Nat} (hb : pre.length = b) : (bW b pre bsz bop bbg ben suf)[b + 1]? = some (.inl (0, 40, .inl (nA bbg))) := ap_get hb
theorem bW_t1 {b : Nat} {pre suf : mH} {bsz : Nat} {bop : Nat} {bbg : Nat → Nat} {ben : Nat → Nat} (hb : pre.length = b) {g : Nat → Nat} : (bW b pre bsz bop bbg ben suf).set (b + 1) (.inl (0, 40, .inl (nA g))) = bW b pre bsz bop g ben suf := ap_set hb
theorem bW_a2 {b : Nat} {pre suf : mH} {bsz : Nat} {bop : Nat} {bbg : Nat → Nat} {ben : Nat → Nat} (hb : pre.length = b) : (bW b pre bsz bop bbg ben suf)[b + 2]? = some (.inl (0, 40, .inl (nA ben))) := ap_get hb
theorem bW_t2 {b : Nat} {pre suf : mH} {bsz : Nat} {bop : Nat} {bbg : Nat → Nat} {ben : Nat → Nat} (hb : pre.length = b) {g : Nat → Nat} : (bW b pre bsz bop bbg ben suf).set (b + 2) (.inl (0, 40, .inl (nA g))) = bW b pre bsz bop bbg g suf := ap_set hb
def rW (b : Nat) (pre : mH) (rn : Nat) (ra : Nat → Nat) (suf : mH) : mH := pre ++ (.inr (3, [.ref (b + 1), .int (nI rn)]) :: .inl (0, 40, .inl (nA ra)) :: suf)
theorem rW_o0 {b : Nat} {pre suf : mH} {rn : Nat} {ra : Nat → Nat} (hb : pre.length = b) : (rW b pre rn ra suf)[b]? = some (.inr (3, [.ref (b + 1), .int (nI rn)])) := ap_get0 hb
theorem rW_s0_1 {b : Nat} {pre suf : mH} {rn : Nat} {ra : Nat → Nat} (hb : pre.length = b) {v : Nat} : (rW b pre rn ra suf).set (b) (.inr (3, [.ref (b + 1), .int (nI rn)].set 1 (.int (nI v)))) = rW b pre v ra suf := ap_set0 hb
theorem rW_a1 {b : Nat} {pre suf : mH} {rn : Nat} {ra : Nat → Nat} (hb : pre.length = b) : (rW b pre rn ra suf)[b + 1]? = some (.inl (0, 40, .inl (nA ra))) := ap_get hb
theorem rW_t1 {b : Nat} {pre suf : mH} {rn : Nat} {ra : Nat → Nat} (hb : pre.length = b) {g : Nat → Nat} : (rW b pre rn ra suf).set (b + 1) (.inl (0, 40, .inl (nA g))) = rW b pre rn g suf := ap_set hb
def tW (b : Nat) (pre : mH) (tl : Nat) (ta : Nat → Nat) (suf : mH) : mH := pre ++ (.inr (6, [.ref (b + 1), .int (nI tl)]) :: .inl (0, 200, .inl (nA ta)) :: suf)
theorem tW_o0 {b : Nat} {pre suf : mH} {tl : Nat} {ta : Nat → Nat} (hb : pre.length = b) : (tW b pre tl ta suf)[b]? = some (.inr (6, [.ref (b + 1), .int (nI tl)])) := ap_get0 hb
theorem tW_s0_1 {b : Nat} {pre suf : mH} {tl : Nat} {ta : Nat → Nat} (hb : pre.length = b) {v : Nat} : (tW b pre tl ta suf).set (b) (.inr (6, [.ref (b + 1), .int (nI tl)].set 1 (.int (nI v)))) = tW b pre v ta suf := ap_set0 hb
theorem tW_a1 {b : Nat} {pre suf : mH} {tl : Nat} {ta : Nat → Nat} (hb : pre.length = b) : (tW b pre tl ta suf)[b + 1]? = some (.inl (0, 200, .inl (nA ta))) := ap_get hb
theorem tW_t1 {b : Nat} {pre suf : mH} {tl : Nat} {ta : Nat → Nat} (hb : pre.length = b) {g : Nat → Nat} : (tW b pre tl ta suf).set (b + 1) (.inl (0, 200, .inl (nA g))) = tW b pre tl g suf := ap_set hb
theorem r_Z_isPt {d : Nat} {h : mH} {Q : Option Value → mH → Prop} {p : Nat} (hp : p < 9) (hQ : Q (some (.int (nI 1))) h) : Rn mprog (d + 1) n_Z_isPoint [.int (nI p)] h Q :=
  r_Z_isPoint (fun _ => hQ) (fun q => absurd ⟨nI_pos' (by omega), nI_lt (b := 9) hp (by decide)⟩ q)
def bcI (x : Int32) : Int32 := (((((((x - (((x.toUInt32 >>> ((nI 1).toUInt32 &&& Int32.toUInt32 31)).toInt32) &&& (nI 1431655765))) &&& (nI 858993459)) + ((((x - (((x.toUInt32 >>> ((nI 1).toUInt32 &&& Int32.toUInt32 31)).toInt32) &&& (nI 1431655765))).toUInt32 >>> ((nI 2).toUInt32 &&& Int32.toUInt32 31)).toInt32) &&& (nI 858993459))) + (((((x - (((x.toUInt32 >>> ((nI 1).toUInt32 &&& Int32.toUInt32 31)).toInt32) &&& (nI 1431655765))) &&& (nI 858993459)) + ((((x - (((x.toUInt32 >>> ((nI 1).toUInt32 &&& Int32.toUInt32 31)).toInt32) &&& (nI 1431655765))).toUInt32 >>> ((nI 2).toUInt32 &&& Int32.toUInt32 31)).toInt32) &&& (nI 858993459))).toUInt32 >>> ((nI 4).toUInt32 &&& Int32.toUInt32 31)).toInt32)) &&& (nI 252645135)) + (((((((x - (((x.toUInt32 >>> ((nI 1).toUInt32 &&& Int32.toUInt32 31)).toInt32) &&& (nI 1431655765))) &&& (nI 858993459)) + ((((x - (((x.toUInt32 >>> ((nI 1).toUInt32 &&& Int32.toUInt32 31)).toInt32) &&& (nI 1431655765))).toUInt32 >>> ((nI 2).toUInt32 &&& Int32.toUInt32 31)).toInt32) &&& (nI 858993459))) + (((((x - (((x.toUInt32 >>> ((nI 1).toUInt32 &&& Int32.toUInt32 31)).toInt32) &&& (nI 1431655765))) &&& (nI 858993459)) + ((((x - (((x.toUInt32 >>> ((nI 1).toUInt32 &&& Int32.toUInt32 31)).toInt32) &&& (nI 1431655765))).toUInt32 >>> ((nI 2).toUInt32 &&& Int32.toUInt32 31)).toInt32) &&& (nI 858993459))).toUInt32 >>> ((nI 4).toUInt32 &&& Int32.toUInt32 31)).toInt32)) &&& (nI 252645135)).toUInt32 >>> ((nI 8).toUInt32 &&& Int32.toUInt32 31)).toInt32)) + ((((((((x - (((x.toUInt32 >>> ((nI 1).toUInt32 &&& Int32.toUInt32 31)).toInt32) &&& (nI 1431655765))) &&& (nI 858993459)) + ((((x - (((x.toUInt32 >>> ((nI 1).toUInt32 &&& Int32.toUInt32 31)).toInt32) &&& (nI 1431655765))).toUInt32 >>> ((nI 2).toUInt32 &&& Int32.toUInt32 31)).toInt32) &&& (nI 858993459))) + (((((x - (((x.toUInt32 >>> ((nI 1).toUInt32 &&& Int32.toUInt32 31)).toInt32) &&& (nI 1431655765))) &&& (nI 858993459)) + ((((x - (((x.toUInt32 >>> ((nI 1).toUInt32 &&& Int32.toUInt32 31)).toInt32) &&& (nI 1431655765))).toUInt32 >>> ((nI 2).toUInt32 &&& Int32.toUInt32 31)).toInt32) &&& (nI 858993459))).toUInt32 >>> ((nI 4).toUInt32 &&& Int32.toUInt32 31)).toInt32)) &&& (nI 252645135)) + (((((((x - (((x.toUInt32 >>> ((nI 1).toUInt32 &&& Int32.toUInt32 31)).toInt32) &&& (nI 1431655765))) &&& (nI 858993459)) + ((((x - (((x.toUInt32 >>> ((nI 1).toUInt32 &&& Int32.toUInt32 31)).toInt32) &&& (nI 1431655765))).toUInt32 >>> ((nI 2).toUInt32 &&& Int32.toUInt32 31)).toInt32) &&& (nI 858993459))) + (((((x - (((x.toUInt32 >>> ((nI 1).toUInt32 &&& Int32.toUInt32 31)).toInt32) &&& (nI 1431655765))) &&& (nI 858993459)) + ((((x - (((x.toUInt32 >>> ((nI 1).toUInt32 &&& Int32.toUInt32 31)).toInt32) &&& (nI 1431655765))).toUInt32 >>> ((nI 2).toUInt32 &&& Int32.toUInt32 31)).toInt32) &&& (nI 858993459))).toUInt32 >>> ((nI 4).toUInt32 &&& Int32.toUInt32 31)).toInt32)) &&& (nI 252645135)).toUInt32 >>> ((nI 8).toUInt32 &&& Int32.toUInt32 31)).toInt32)).toUInt32 >>> ((nI 16).toUInt32 &&& Int32.toUInt32 31)).toInt32)) &&& (nI 63)
theorem r_bitCountI {d : Nat} {h : mH} {Q : Option Value → mH → Prop} {x : Int32} (hQ : Q (some (.int (bcI x))) h) : Rn mprog (d + 1) n_Int_bitCount [.int x] h Q := by
  refine Rn.in rfl rfl rfl ?_
  show WP _ _ _ _ 0 [.int x] [] h
  refine wq_iload_n rfl rfl ?_
  refine wq_iload_n rfl rfl ?_
  refine wq_iconst (v := nI 1) rfl (by decide) ?_
  refine wq_iushr (v := (x.toUInt32 >>> ((nI 1).toUInt32 &&& Int32.toUInt32 31)).toInt32) rfl rfl ?_
  refine wq_ldcw (v := nI 1431655765) rfl rfl ?_
  refine wq_iand (v := ((x.toUInt32 >>> ((nI 1).toUInt32 &&& Int32.toUInt32 31)).toInt32) &&& (nI 1431655765)) rfl rfl ?_
  refine wq_isub (v := x - (((x.toUInt32 >>> ((nI 1).toUInt32 &&& Int32.toUInt32 31)).toInt32) &&& (nI 1431655765))) rfl rfl ?_
  refine wq_istore_n (lv' := [.int (x - (((x.toUInt32 >>> ((nI 1).toUInt32 &&& Int32.toUInt32 31)).toInt32) &&& (nI 1431655765)))]) rfl rfl rfl ?_
  refine wq_iload_n rfl rfl ?_
  refine wq_ldcw (v := nI 858993459) rfl rfl ?_
  refine wq_iand (v := (x - (((x.toUInt32 >>> ((nI 1).toUInt32 &&& Int32.toUInt32 31)).toInt32) &&& (nI 1431655765))) &&& (nI 858993459)) rfl rfl ?_
  refine wq_iload_n rfl rfl ?_
  refine wq_iconst (v := nI 2) rfl (by decide) ?_
  refine wq_iushr (v := ((x - (((x.toUInt32 >>> ((nI 1).toUInt32 &&& Int32.toUInt32 31)).toInt32) &&& (nI 1431655765))).toUInt32 >>> ((nI 2).toUInt32 &&& Int32.toUInt32 31)).toInt32) rfl rfl ?_
  refine wq_ldcw (v := nI 858993459) rfl rfl ?_
  refine wq_iand (v := (((x - (((x.toUInt32 >>> ((nI 1).toUInt32 &&& Int32.toUInt32 31)).toInt32) &&& (nI 1431655765))).toUInt32 >>> ((nI 2).toUInt32 &&& Int32.toUInt32 31)).toInt32) &&& (nI 858993459)) rfl rfl ?_
  refine wq_iadd (v := ((x - (((x.toUInt32 >>> ((nI 1).toUInt32 &&& Int32.toUInt32 31)).toInt32) &&& (nI 1431655765))) &&& (nI 858993459)) + ((((x - (((x.toUInt32 >>> ((nI 1).toUInt32 &&& Int32.toUInt32 31)).toInt32) &&& (nI 1431655765))).toUInt32 >>> ((nI 2).toUInt32 &&& Int32.toUInt32 31)).toInt32) &&& (nI 858993459))) rfl rfl ?_
  refine wq_istore_n (lv' := [.int (((x - (((x.toUInt32 >>> ((nI 1).toUInt32 &&& Int32.toUInt32 31)).toInt32) &&& (nI 1431655765))) &&& (nI 858993459)) + ((((x - (((x.toUInt32 >>> ((nI 1).toUInt32 &&& Int32.toUInt32 31)).toInt32) &&& (nI 1431655765))).toUInt32 >>> ((nI 2).toUInt32 &&& Int32.toUInt32 31)).toInt32) &&& (nI 858993459)))]) rfl rfl rfl ?_
  refine wq_iload_n rfl rfl ?_
  refine wq_iload_n rfl rfl ?_
  refine wq_iconst (v := nI 4) rfl (by decide) ?_
  refine wq_iushr (v := ((((x - (((x.toUInt32 >>> ((nI 1).toUInt32 &&& Int32.toUInt32 31)).toInt32) &&& (nI 1431655765))) &&& (nI 858993459)) + ((((x - (((x.toUInt32 >>> ((nI 1).toUInt32 &&& Int32.toUInt32 31)).toInt32) &&& (nI 1431655765))).toUInt32 >>> ((nI 2).toUInt32 &&& Int32.toUInt32 31)).toInt32) &&& (nI 858993459))).toUInt32 >>> ((nI 4).toUInt32 &&& Int32.toUInt32 31)).toInt32) rfl rfl ?_
  refine wq_iadd (v := (((x - (((x.toUInt32 >>> ((nI 1).toUInt32 &&& Int32.toUInt32 31)).toInt32) &&& (nI 1431655765))) &&& (nI 858993459)) + ((((x - (((x.toUInt32 >>> ((nI 1).toUInt32 &&& Int32.toUInt32 31)).toInt32) &&& (nI 1431655765))).toUInt32 >>> ((nI 2).toUInt32 &&& Int32.toUInt32 31)).toInt32) &&& (nI 858993459))) + (((((x - (((x.toUInt32 >>> ((nI 1).toUInt32 &&& Int32.toUInt32 31)).toInt32) &&& (nI 1431655765))) &&& (nI 858993459)) + ((((x - (((x.toUInt32 >>> ((nI 1).toUInt32 &&& Int32.toUInt32 31)).toInt32) &&& (nI 1431655765))).toUInt32 >>> ((nI 2).toUInt32 &&& Int32.toUInt32 31)).toInt32) &&& (nI 858993459))).toUInt32 >>> ((nI 4).toUInt32 &&& Int32.toUInt32 31)).toInt32)) rfl rfl ?_
  refine wq_ldcw (v := nI 252645135) rfl rfl ?_
  refine wq_iand (v := ((((x - (((x.toUInt32 >>> ((nI 1).toUInt32 &&& Int32.toUInt32 31)).toInt32) &&& (nI 1431655765))) &&& (nI 858993459)) + ((((x - (((x.toUInt32 >>> ((nI 1).toUInt32 &&& Int32.toUInt32 31)).toInt32) &&& (nI 1431655765))).toUInt32 >>> ((nI 2).toUInt32 &&& Int32.toUInt32 31)).toInt32) &&& (nI 858993459))) + (((((x - (((x.toUInt32 >>> ((nI 1).toUInt32 &&& Int32.toUInt32 31)).toInt32) &&& (nI 1431655765))) &&& (nI 858993459)) + ((((x - (((x.toUInt32 >>> ((nI 1).toUInt32 &&& Int32.toUInt32 31)).toInt32) &&& (nI 1431655765))).toUInt32 >>> ((nI 2).toUInt32 &&& Int32.toUInt32 31)).toInt32) &&& (nI 858993459))).toUInt32 >>> ((nI 4).toUInt32 &&& Int32.toUInt32 31)).toInt32)) &&& (nI 252645135)) rfl rfl ?_
  refine wq_istore_n (lv' := [.int (((((x - (((x.toUInt32 >>> ((nI 1).toUInt32 &&& Int32.toUInt32 31)).toInt32) &&& (nI 1431655765))) &&& (nI 858993459)) + ((((x - (((x.toUInt32 >>> ((nI 1).toUInt32 &&& Int32.toUInt32 31)).toInt32) &&& (nI 1431655765))).toUInt32 >>> ((nI 2).toUInt32 &&& Int32.toUInt32 31)).toInt32) &&& (nI 858993459))) + (((((x - (((x.toUInt32 >>> ((nI 1).toUInt32 &&& Int32.toUInt32 31)).toInt32) &&& (nI 1431655765))) &&& (nI 858993459)) + ((((x - (((x.toUInt32 >>> ((nI 1).toUInt32 &&& Int32.toUInt32 31)).toInt32) &&& (nI 1431655765))).toUInt32 >>> ((nI 2).toUInt32 &&& Int32.toUInt32 31)).toInt32) &&& (nI 858993459))).toUInt32 >>> ((nI 4).toUInt32 &&& Int32.toUInt32 31)).toInt32)) &&& (nI 252645135))]) rfl rfl rfl ?_
  refine wq_iload_n rfl rfl ?_
  refine wq_iload_n rfl rfl ?_
  refine wq_bipush (v := nI 8) rfl (by decide) ?_
  refine wq_iushr (v := ((((((x - (((x.toUInt32 >>> ((nI 1).toUInt32 &&& Int32.toUInt32 31)).toInt32) &&& (nI 1431655765))) &&& (nI 858993459)) + ((((x - (((x.toUInt32 >>> ((nI 1).toUInt32 &&& Int32.toUInt32 31)).toInt32) &&& (nI 1431655765))).toUInt32 >>> ((nI 2).toUInt32 &&& Int32.toUInt32 31)).toInt32) &&& (nI 858993459))) + (((((x - (((x.toUInt32 >>> ((nI 1).toUInt32 &&& Int32.toUInt32 31)).toInt32) &&& (nI 1431655765))) &&& (nI 858993459)) + ((((x - (((x.toUInt32 >>> ((nI 1).toUInt32 &&& Int32.toUInt32 31)).toInt32) &&& (nI 1431655765))).toUInt32 >>> ((nI 2).toUInt32 &&& Int32.toUInt32 31)).toInt32) &&& (nI 858993459))).toUInt32 >>> ((nI 4).toUInt32 &&& Int32.toUInt32 31)).toInt32)) &&& (nI 252645135)).toUInt32 >>> ((nI 8).toUInt32 &&& Int32.toUInt32 31)).toInt32) rfl rfl ?_
  refine wq_iadd (v := (((((x - (((x.toUInt32 >>> ((nI 1).toUInt32 &&& Int32.toUInt32 31)).toInt32) &&& (nI 1431655765))) &&& (nI 858993459)) + ((((x - (((x.toUInt32 >>> ((nI 1).toUInt32 &&& Int32.toUInt32 31)).toInt32) &&& (nI 1431655765))).toUInt32 >>> ((nI 2).toUInt32 &&& Int32.toUInt32 31)).toInt32) &&& (nI 858993459))) + (((((x - (((x.toUInt32 >>> ((nI 1).toUInt32 &&& Int32.toUInt32 31)).toInt32) &&& (nI 1431655765))) &&& (nI 858993459)) + ((((x - (((x.toUInt32 >>> ((nI 1).toUInt32 &&& Int32.toUInt32 31)).toInt32) &&& (nI 1431655765))).toUInt32 >>> ((nI 2).toUInt32 &&& Int32.toUInt32 31)).toInt32) &&& (nI 858993459))).toUInt32 >>> ((nI 4).toUInt32 &&& Int32.toUInt32 31)).toInt32)) &&& (nI 252645135)) + (((((((x - (((x.toUInt32 >>> ((nI 1).toUInt32 &&& Int32.toUInt32 31)).toInt32) &&& (nI 1431655765))) &&& (nI 858993459)) + ((((x - (((x.toUInt32 >>> ((nI 1).toUInt32 &&& Int32.toUInt32 31)).toInt32) &&& (nI 1431655765))).toUInt32 >>> ((nI 2).toUInt32 &&& Int32.toUInt32 31)).toInt32) &&& (nI 858993459))) + (((((x - (((x.toUInt32 >>> ((nI 1).toUInt32 &&& Int32.toUInt32 31)).toInt32) &&& (nI 1431655765))) &&& (nI 858993459)) + ((((x - (((x.toUInt32 >>> ((nI 1).toUInt32 &&& Int32.toUInt32 31)).toInt32) &&& (nI 1431655765))).toUInt32 >>> ((nI 2).toUInt32 &&& Int32.toUInt32 31)).toInt32) &&& (nI 858993459))).toUInt32 >>> ((nI 4).toUInt32 &&& Int32.toUInt32 31)).toInt32)) &&& (nI 252645135)).toUInt32 >>> ((nI 8).toUInt32 &&& Int32.toUInt32 31)).toInt32)) rfl rfl ?_
  refine wq_istore_n (lv' := [.int ((((((x - (((x.toUInt32 >>> ((nI 1).toUInt32 &&& Int32.toUInt32 31)).toInt32) &&& (nI 1431655765))) &&& (nI 858993459)) + ((((x - (((x.toUInt32 >>> ((nI 1).toUInt32 &&& Int32.toUInt32 31)).toInt32) &&& (nI 1431655765))).toUInt32 >>> ((nI 2).toUInt32 &&& Int32.toUInt32 31)).toInt32) &&& (nI 858993459))) + (((((x - (((x.toUInt32 >>> ((nI 1).toUInt32 &&& Int32.toUInt32 31)).toInt32) &&& (nI 1431655765))) &&& (nI 858993459)) + ((((x - (((x.toUInt32 >>> ((nI 1).toUInt32 &&& Int32.toUInt32 31)).toInt32) &&& (nI 1431655765))).toUInt32 >>> ((nI 2).toUInt32 &&& Int32.toUInt32 31)).toInt32) &&& (nI 858993459))).toUInt32 >>> ((nI 4).toUInt32 &&& Int32.toUInt32 31)).toInt32)) &&& (nI 252645135)) + (((((((x - (((x.toUInt32 >>> ((nI 1).toUInt32 &&& Int32.toUInt32 31)).toInt32) &&& (nI 1431655765))) &&& (nI 858993459)) + ((((x - (((x.toUInt32 >>> ((nI 1).toUInt32 &&& Int32.toUInt32 31)).toInt32) &&& (nI 1431655765))).toUInt32 >>> ((nI 2).toUInt32 &&& Int32.toUInt32 31)).toInt32) &&& (nI 858993459))) + (((((x - (((x.toUInt32 >>> ((nI 1).toUInt32 &&& Int32.toUInt32 31)).toInt32) &&& (nI 1431655765))) &&& (nI 858993459)) + ((((x - (((x.toUInt32 >>> ((nI 1).toUInt32 &&& Int32.toUInt32 31)).toInt32) &&& (nI 1431655765))).toUInt32 >>> ((nI 2).toUInt32 &&& Int32.toUInt32 31)).toInt32) &&& (nI 858993459))).toUInt32 >>> ((nI 4).toUInt32 &&& Int32.toUInt32 31)).toInt32)) &&& (nI 252645135)).toUInt32 >>> ((nI 8).toUInt32 &&& Int32.toUInt32 31)).toInt32))]) rfl rfl rfl ?_
  refine wq_iload_n rfl rfl ?_
  refine wq_iload_n rfl rfl ?_
  refine wq_bipush (v := nI 16) rfl (by decide) ?_
  refine wq_iushr (v := (((((((x - (((x.toUInt32 >>> ((nI 1).toUInt32 &&& Int32.toUInt32 31)).toInt32) &&& (nI 1431655765))) &&& (nI 858993459)) + ((((x - (((x.toUInt32 >>> ((nI 1).toUInt32 &&& Int32.toUInt32 31)).toInt32) &&& (nI 1431655765))).toUInt32 >>> ((nI 2).toUInt32 &&& Int32.toUInt32 31)).toInt32) &&& (nI 858993459))) + (((((x - (((x.toUInt32 >>> ((nI 1).toUInt32 &&& Int32.toUInt32 31)).toInt32) &&& (nI 1431655765))) &&& (nI 858993459)) + ((((x - (((x.toUInt32 >>> ((nI 1).toUInt32 &&& Int32.toUInt32 31)).toInt32) &&& (nI 1431655765))).toUInt32 >>> ((nI 2).toUInt32 &&& Int32.toUInt32 31)).toInt32) &&& (nI 858993459))).toUInt32 >>> ((nI 4).toUInt32 &&& Int32.toUInt32 31)).toInt32)) &&& (nI 252645135)) + (((((((x - (((x.toUInt32 >>> ((nI 1).toUInt32 &&& Int32.toUInt32 31)).toInt32) &&& (nI 1431655765))) &&& (nI 858993459)) + ((((x - (((x.toUInt32 >>> ((nI 1).toUInt32 &&& Int32.toUInt32 31)).toInt32) &&& (nI 1431655765))).toUInt32 >>> ((nI 2).toUInt32 &&& Int32.toUInt32 31)).toInt32) &&& (nI 858993459))) + (((((x - (((x.toUInt32 >>> ((nI 1).toUInt32 &&& Int32.toUInt32 31)).toInt32) &&& (nI 1431655765))) &&& (nI 858993459)) + ((((x - (((x.toUInt32 >>> ((nI 1).toUInt32 &&& Int32.toUInt32 31)).toInt32) &&& (nI 1431655765))).toUInt32 >>> ((nI 2).toUInt32 &&& Int32.toUInt32 31)).toInt32) &&& (nI 858993459))).toUInt32 >>> ((nI 4).toUInt32 &&& Int32.toUInt32 31)).toInt32)) &&& (nI 252645135)).toUInt32 >>> ((nI 8).toUInt32 &&& Int32.toUInt32 31)).toInt32)).toUInt32 >>> ((nI 16).toUInt32 &&& Int32.toUInt32 31)).toInt32) rfl rfl ?_
  refine wq_iadd (v := ((((((x - (((x.toUInt32 >>> ((nI 1).toUInt32 &&& Int32.toUInt32 31)).toInt32) &&& (nI 1431655765))) &&& (nI 858993459)) + ((((x - (((x.toUInt32 >>> ((nI 1).toUInt32 &&& Int32.toUInt32 31)).toInt32) &&& (nI 1431655765))).toUInt32 >>> ((nI 2).toUInt32 &&& Int32.toUInt32 31)).toInt32) &&& (nI 858993459))) + (((((x - (((x.toUInt32 >>> ((nI 1).toUInt32 &&& Int32.toUInt32 31)).toInt32) &&& (nI 1431655765))) &&& (nI 858993459)) + ((((x - (((x.toUInt32 >>> ((nI 1).toUInt32 &&& Int32.toUInt32 31)).toInt32) &&& (nI 1431655765))).toUInt32 >>> ((nI 2).toUInt32 &&& Int32.toUInt32 31)).toInt32) &&& (nI 858993459))).toUInt32 >>> ((nI 4).toUInt32 &&& Int32.toUInt32 31)).toInt32)) &&& (nI 252645135)) + (((((((x - (((x.toUInt32 >>> ((nI 1).toUInt32 &&& Int32.toUInt32 31)).toInt32) &&& (nI 1431655765))) &&& (nI 858993459)) + ((((x - (((x.toUInt32 >>> ((nI 1).toUInt32 &&& Int32.toUInt32 31)).toInt32) &&& (nI 1431655765))).toUInt32 >>> ((nI 2).toUInt32 &&& Int32.toUInt32 31)).toInt32) &&& (nI 858993459))) + (((((x - (((x.toUInt32 >>> ((nI 1).toUInt32 &&& Int32.toUInt32 31)).toInt32) &&& (nI 1431655765))) &&& (nI 858993459)) + ((((x - (((x.toUInt32 >>> ((nI 1).toUInt32 &&& Int32.toUInt32 31)).toInt32) &&& (nI 1431655765))).toUInt32 >>> ((nI 2).toUInt32 &&& Int32.toUInt32 31)).toInt32) &&& (nI 858993459))).toUInt32 >>> ((nI 4).toUInt32 &&& Int32.toUInt32 31)).toInt32)) &&& (nI 252645135)).toUInt32 >>> ((nI 8).toUInt32 &&& Int32.toUInt32 31)).toInt32)) + ((((((((x - (((x.toUInt32 >>> ((nI 1).toUInt32 &&& Int32.toUInt32 31)).toInt32) &&& (nI 1431655765))) &&& (nI 858993459)) + ((((x - (((x.toUInt32 >>> ((nI 1).toUInt32 &&& Int32.toUInt32 31)).toInt32) &&& (nI 1431655765))).toUInt32 >>> ((nI 2).toUInt32 &&& Int32.toUInt32 31)).toInt32) &&& (nI 858993459))) + (((((x - (((x.toUInt32 >>> ((nI 1).toUInt32 &&& Int32.toUInt32 31)).toInt32) &&& (nI 1431655765))) &&& (nI 858993459)) + ((((x - (((x.toUInt32 >>> ((nI 1).toUInt32 &&& Int32.toUInt32 31)).toInt32) &&& (nI 1431655765))).toUInt32 >>> ((nI 2).toUInt32 &&& Int32.toUInt32 31)).toInt32) &&& (nI 858993459))).toUInt32 >>> ((nI 4).toUInt32 &&& Int32.toUInt32 31)).toInt32)) &&& (nI 252645135)) + (((((((x - (((x.toUInt32 >>> ((nI 1).toUInt32 &&& Int32.toUInt32 31)).toInt32) &&& (nI 1431655765))) &&& (nI 858993459)) + ((((x - (((x.toUInt32 >>> ((nI 1).toUInt32 &&& Int32.toUInt32 31)).toInt32) &&& (nI 1431655765))).toUInt32 >>> ((nI 2).toUInt32 &&& Int32.toUInt32 31)).toInt32) &&& (nI 858993459))) + (((((x - (((x.toUInt32 >>> ((nI 1).toUInt32 &&& Int32.toUInt32 31)).toInt32) &&& (nI 1431655765))) &&& (nI 858993459)) + ((((x - (((x.toUInt32 >>> ((nI 1).toUInt32 &&& Int32.toUInt32 31)).toInt32) &&& (nI 1431655765))).toUInt32 >>> ((nI 2).toUInt32 &&& Int32.toUInt32 31)).toInt32) &&& (nI 858993459))).toUInt32 >>> ((nI 4).toUInt32 &&& Int32.toUInt32 31)).toInt32)) &&& (nI 252645135)).toUInt32 >>> ((nI 8).toUInt32 &&& Int32.toUInt32 31)).toInt32)).toUInt32 >>> ((nI 16).toUInt32 &&& Int32.toUInt32 31)).toInt32)) rfl rfl ?_
  refine wq_istore_n (lv' := [.int (((((((x - (((x.toUInt32 >>> ((nI 1).toUInt32 &&& Int32.toUInt32 31)).toInt32) &&& (nI 1431655765))) &&& (nI 858993459)) + ((((x - (((x.toUInt32 >>> ((nI 1).toUInt32 &&& Int32.toUInt32 31)).toInt32) &&& (nI 1431655765))).toUInt32 >>> ((nI 2).toUInt32 &&& Int32.toUInt32 31)).toInt32) &&& (nI 858993459))) + (((((x - (((x.toUInt32 >>> ((nI 1).toUInt32 &&& Int32.toUInt32 31)).toInt32) &&& (nI 1431655765))) &&& (nI 858993459)) + ((((x - (((x.toUInt32 >>> ((nI 1).toUInt32 &&& Int32.toUInt32 31)).toInt32) &&& (nI 1431655765))).toUInt32 >>> ((nI 2).toUInt32 &&& Int32.toUInt32 31)).toInt32) &&& (nI 858993459))).toUInt32 >>> ((nI 4).toUInt32 &&& Int32.toUInt32 31)).toInt32)) &&& (nI 252645135)) + (((((((x - (((x.toUInt32 >>> ((nI 1).toUInt32 &&& Int32.toUInt32 31)).toInt32) &&& (nI 1431655765))) &&& (nI 858993459)) + ((((x - (((x.toUInt32 >>> ((nI 1).toUInt32 &&& Int32.toUInt32 31)).toInt32) &&& (nI 1431655765))).toUInt32 >>> ((nI 2).toUInt32 &&& Int32.toUInt32 31)).toInt32) &&& (nI 858993459))) + (((((x - (((x.toUInt32 >>> ((nI 1).toUInt32 &&& Int32.toUInt32 31)).toInt32) &&& (nI 1431655765))) &&& (nI 858993459)) + ((((x - (((x.toUInt32 >>> ((nI 1).toUInt32 &&& Int32.toUInt32 31)).toInt32) &&& (nI 1431655765))).toUInt32 >>> ((nI 2).toUInt32 &&& Int32.toUInt32 31)).toInt32) &&& (nI 858993459))).toUInt32 >>> ((nI 4).toUInt32 &&& Int32.toUInt32 31)).toInt32)) &&& (nI 252645135)).toUInt32 >>> ((nI 8).toUInt32 &&& Int32.toUInt32 31)).toInt32)) + ((((((((x - (((x.toUInt32 >>> ((nI 1).toUInt32 &&& Int32.toUInt32 31)).toInt32) &&& (nI 1431655765))) &&& (nI 858993459)) + ((((x - (((x.toUInt32 >>> ((nI 1).toUInt32 &&& Int32.toUInt32 31)).toInt32) &&& (nI 1431655765))).toUInt32 >>> ((nI 2).toUInt32 &&& Int32.toUInt32 31)).toInt32) &&& (nI 858993459))) + (((((x - (((x.toUInt32 >>> ((nI 1).toUInt32 &&& Int32.toUInt32 31)).toInt32) &&& (nI 1431655765))) &&& (nI 858993459)) + ((((x - (((x.toUInt32 >>> ((nI 1).toUInt32 &&& Int32.toUInt32 31)).toInt32) &&& (nI 1431655765))).toUInt32 >>> ((nI 2).toUInt32 &&& Int32.toUInt32 31)).toInt32) &&& (nI 858993459))).toUInt32 >>> ((nI 4).toUInt32 &&& Int32.toUInt32 31)).toInt32)) &&& (nI 252645135)) + (((((((x - (((x.toUInt32 >>> ((nI 1).toUInt32 &&& Int32.toUInt32 31)).toInt32) &&& (nI 1431655765))) &&& (nI 858993459)) + ((((x - (((x.toUInt32 >>> ((nI 1).toUInt32 &&& Int32.toUInt32 31)).toInt32) &&& (nI 1431655765))).toUInt32 >>> ((nI 2).toUInt32 &&& Int32.toUInt32 31)).toInt32) &&& (nI 858993459))) + (((((x - (((x.toUInt32 >>> ((nI 1).toUInt32 &&& Int32.toUInt32 31)).toInt32) &&& (nI 1431655765))) &&& (nI 858993459)) + ((((x - (((x.toUInt32 >>> ((nI 1).toUInt32 &&& Int32.toUInt32 31)).toInt32) &&& (nI 1431655765))).toUInt32 >>> ((nI 2).toUInt32 &&& Int32.toUInt32 31)).toInt32) &&& (nI 858993459))).toUInt32 >>> ((nI 4).toUInt32 &&& Int32.toUInt32 31)).toInt32)) &&& (nI 252645135)).toUInt32 >>> ((nI 8).toUInt32 &&& Int32.toUInt32 31)).toInt32)).toUInt32 >>> ((nI 16).toUInt32 &&& Int32.toUInt32 31)).toInt32))]) rfl rfl rfl ?_
  refine wq_iload_n rfl rfl ?_
  refine wq_bipush (v := nI 63) rfl (by decide) ?_
  refine wq_iand (v := (((((((x - (((x.toUInt32 >>> ((nI 1).toUInt32 &&& Int32.toUInt32 31)).toInt32) &&& (nI 1431655765))) &&& (nI 858993459)) + ((((x - (((x.toUInt32 >>> ((nI 1).toUInt32 &&& Int32.toUInt32 31)).toInt32) &&& (nI 1431655765))).toUInt32 >>> ((nI 2).toUInt32 &&& Int32.toUInt32 31)).toInt32) &&& (nI 858993459))) + (((((x - (((x.toUInt32 >>> ((nI 1).toUInt32 &&& Int32.toUInt32 31)).toInt32) &&& (nI 1431655765))) &&& (nI 858993459)) + ((((x - (((x.toUInt32 >>> ((nI 1).toUInt32 &&& Int32.toUInt32 31)).toInt32) &&& (nI 1431655765))).toUInt32 >>> ((nI 2).toUInt32 &&& Int32.toUInt32 31)).toInt32) &&& (nI 858993459))).toUInt32 >>> ((nI 4).toUInt32 &&& Int32.toUInt32 31)).toInt32)) &&& (nI 252645135)) + (((((((x - (((x.toUInt32 >>> ((nI 1).toUInt32 &&& Int32.toUInt32 31)).toInt32) &&& (nI 1431655765))) &&& (nI 858993459)) + ((((x - (((x.toUInt32 >>> ((nI 1).toUInt32 &&& Int32.toUInt32 31)).toInt32) &&& (nI 1431655765))).toUInt32 >>> ((nI 2).toUInt32 &&& Int32.toUInt32 31)).toInt32) &&& (nI 858993459))) + (((((x - (((x.toUInt32 >>> ((nI 1).toUInt32 &&& Int32.toUInt32 31)).toInt32) &&& (nI 1431655765))) &&& (nI 858993459)) + ((((x - (((x.toUInt32 >>> ((nI 1).toUInt32 &&& Int32.toUInt32 31)).toInt32) &&& (nI 1431655765))).toUInt32 >>> ((nI 2).toUInt32 &&& Int32.toUInt32 31)).toInt32) &&& (nI 858993459))).toUInt32 >>> ((nI 4).toUInt32 &&& Int32.toUInt32 31)).toInt32)) &&& (nI 252645135)).toUInt32 >>> ((nI 8).toUInt32 &&& Int32.toUInt32 31)).toInt32)) + ((((((((x - (((x.toUInt32 >>> ((nI 1).toUInt32 &&& Int32.toUInt32 31)).toInt32) &&& (nI 1431655765))) &&& (nI 858993459)) + ((((x - (((x.toUInt32 >>> ((nI 1).toUInt32 &&& Int32.toUInt32 31)).toInt32) &&& (nI 1431655765))).toUInt32 >>> ((nI 2).toUInt32 &&& Int32.toUInt32 31)).toInt32) &&& (nI 858993459))) + (((((x - (((x.toUInt32 >>> ((nI 1).toUInt32 &&& Int32.toUInt32 31)).toInt32) &&& (nI 1431655765))) &&& (nI 858993459)) + ((((x - (((x.toUInt32 >>> ((nI 1).toUInt32 &&& Int32.toUInt32 31)).toInt32) &&& (nI 1431655765))).toUInt32 >>> ((nI 2).toUInt32 &&& Int32.toUInt32 31)).toInt32) &&& (nI 858993459))).toUInt32 >>> ((nI 4).toUInt32 &&& Int32.toUInt32 31)).toInt32)) &&& (nI 252645135)) + (((((((x - (((x.toUInt32 >>> ((nI 1).toUInt32 &&& Int32.toUInt32 31)).toInt32) &&& (nI 1431655765))) &&& (nI 858993459)) + ((((x - (((x.toUInt32 >>> ((nI 1).toUInt32 &&& Int32.toUInt32 31)).toInt32) &&& (nI 1431655765))).toUInt32 >>> ((nI 2).toUInt32 &&& Int32.toUInt32 31)).toInt32) &&& (nI 858993459))) + (((((x - (((x.toUInt32 >>> ((nI 1).toUInt32 &&& Int32.toUInt32 31)).toInt32) &&& (nI 1431655765))) &&& (nI 858993459)) + ((((x - (((x.toUInt32 >>> ((nI 1).toUInt32 &&& Int32.toUInt32 31)).toInt32) &&& (nI 1431655765))).toUInt32 >>> ((nI 2).toUInt32 &&& Int32.toUInt32 31)).toInt32) &&& (nI 858993459))).toUInt32 >>> ((nI 4).toUInt32 &&& Int32.toUInt32 31)).toInt32)) &&& (nI 252645135)).toUInt32 >>> ((nI 8).toUInt32 &&& Int32.toUInt32 31)).toInt32)).toUInt32 >>> ((nI 16).toUInt32 &&& Int32.toUInt32 31)).toInt32)) &&& (nI 63)) rfl rfl ?_
  refine wq_iret rfl trivial ?_
  exact hQ
def popc (x : Nat) : Nat → Nat
  | 0 => 0
  | n + 1 => popc x n + (if x.testBit n = true then 1 else 0)
set_option maxRecDepth 100000 in
theorem bcI_ok : ∀ x : Fin 512, bcI (nI x.val) = nI (popc x.val 9) := by decide +kernel
theorem r_bitCount {d : Nat} {h : mH} {Q : Option Value → mH → Prop} {x : Nat} (hx : x < 512) (hQ : Q (some (.int (nI (popc x 9)))) h) : Rn mprog (d + 1) n_Int_bitCount [.int (nI x)] h Q := r_bitCountI (by rw [bcI_ok ⟨x, hx⟩]; exact hQ)
theorem nN_nand (a m : Nat) : (nI m ^^^ (-1)) &&& nI a = nI (nd a m) := by rw [Int32.and_comm]; exact nN_andn a m
def ntz3 (n y : Nat) : Nat := if y ≤ 4 then n + y >>> 1 else n + 2 + y >>> 2 >>> 1
def ntz2 (n y : Nat) : Nat := if y ≤ 16 then ntz3 n y else ntz3 (n + 4) (y >>> 4)
def ntz1 (n y : Nat) : Nat := if y ≤ 256 then ntz2 n y else ntz2 (n + 8) (y >>> 8)
def ntzN (x : Nat) : Nat := if nd (x - 1) x = 0 then nd (x - 1) x &&& 32 else ntz1 1 (nd (x - 1) x)
def low9 (x : Nat) : Nat := if x.testBit 0 then 0 else if x.testBit 1 then 1 else if x.testBit 2 then 2 else if x.testBit 3 then 3 else if x.testBit 4 then 4 else if x.testBit 5 then 5 else if x.testBit 6 then 6 else if x.testBit 7 then 7 else 8
set_option maxRecDepth 100000 in
theorem ntz_ok : ∀ x : Fin 512, x.val ≠ 0 → ntzN x.val = low9 x.val ∧ nd (x.val - 1) x.val < 512 := by decide +kernel
set_option maxRecDepth 100000 in
theorem low9_ok : ∀ x : Fin 512, x.val ≠ 0 → x.val.testBit (low9 x.val) = true ∧ low9 x.val < 9 ∧ ∀ j : Fin 9, j.val < low9 x.val → x.val.testBit j.val = false := by decide +kernel
theorem shr_le (y k : Nat) : y >>> k ≤ y := by rw [Nat.shiftRight_eq_div_pow]; exact Nat.div_le_self _ _
theorem r_ntz {d : Nat} {h : mH} {Q : Option Value → mH → Prop} {x : Nat} (hx : x < 512) (h0 : x ≠ 0) (hQ : Q (some (.int (nI (low9 x)))) h) : Rn mprog (d + 1) n_Int_numberOfTrailingZeros [.int (nI x)] h Q := by
  refine Rn.in rfl rfl rfl ?_
  show WP _ _ _ _ 0 [.int (nI x), .long 0] [] h
  refine wq_iload_n rfl rfl ?_
  refine wq_iconst (v := (-1)) rfl (by decide) ?_
  refine wq_ixor (v := (nI x ^^^ (-1))) rfl rfl ?_
  refine wq_iload_n rfl rfl ?_
  refine wq_iconst (v := nI 1) rfl (by decide) ?_
  refine wn_isub rfl (by omega) ?_
  refine wq_iand (v := nI (nd (x - 1) x)) rfl (nN_nand _ _) ?_
  refine wq_istore_n (lv' := [.int (nI (nd (x - 1) x)), .long 0]) rfl rfl rfl ?_
  have hy : nd (x - 1) x < 512 := (ntz_ok ⟨x, hx⟩ h0).2
  refine wq_iload_n rfl rfl ?_
  refine wn_if_gt rfl (by omega) (fun c9 => ?_) (fun c9 => ?_)
  · skip
    refine wq_iconst (v := nI 1) rfl (by decide) ?_
    refine wq_istore_n (lv' := [.int (nI (nd (x - 1) x)), .int (nI 1)]) rfl rfl rfl ?_
    refine wq_iload_n rfl rfl ?_
    refine wq_ldcw (v := nI 65536) rfl rfl ?_
    refine wn_ic_le rfl (by omega) (by omega) (fun c23 => ?_) (fun c23 => absurd c23 (by omega))
    have hy8 := shr_le (nd (x - 1) x) 8
    refine wq_iload_n rfl rfl ?_
    refine wq_sipush (v := nI 256) rfl (by decide) ?_
    refine wn_ic_le rfl (by omega) (by omega) (fun c38 => ?_) (fun c38 => ?_)
    · skip
      have hz := shr_le (nd (x - 1) x) 4
      have hz8 := shr_le (nd (x - 1) x >>> 8) 4
      refine wq_iload_n rfl rfl ?_
      refine wq_bipush (v := nI 16) rfl (by decide) ?_
      refine wn_ic_le rfl (by omega) (by omega) (fun c52 => ?_) (fun c52 => ?_)
      · skip
        have hw0 := shr_le (nd (x - 1) x) 2
        have hw1 := shr_le (nd (x - 1) x >>> 8) 2
        have hw2 := shr_le (nd (x - 1) x >>> 4) 2
        have hw3 := shr_le (nd (x - 1) x >>> 8 >>> 4) 2
        refine wq_iload_n rfl rfl ?_
        refine wq_iconst (v := nI 4) rfl (by decide) ?_
        refine wn_ic_le rfl (by omega) (by omega) (fun c64 => ?_) (fun c64 => ?_)
        · skip
          refine wq_iload_n rfl rfl ?_
          refine wq_iload_n rfl rfl ?_
          refine wq_iconst (v := nI 1) rfl (by decide) ?_
          refine wn_iushr rfl (by omega) (by omega) ?_
          refine wn_iadd rfl ?_
          refine wq_iret rfl trivial ?_
          have e : ntzN x = 1 + ((nd (x - 1) x) >>> 1) := by rw [ntzN, if_neg (Nat.ne_of_gt c9), ntz1, if_pos c38, ntz2, if_pos c52, ntz3, if_pos c64]
          rw [← e, (ntz_ok ⟨x, hx⟩ h0).1]
          exact hQ
        · skip
          refine wq_iinc (v := nI (1 + 2)) (lv' := [.int (nI (nd (x - 1) x)), .int (nI (1 + 2))]) rfl rfl (nI_add _ _) rfl ?_
          refine wq_iload_n rfl rfl ?_
          refine wq_iconst (v := nI 2) rfl (by decide) ?_
          refine wn_iushr rfl (by omega) (by omega) ?_
          refine wq_istore_n (lv' := [.int (nI ((nd (x - 1) x) >>> 2)), .int (nI (1 + 2))]) rfl rfl rfl ?_
          refine wq_iload_n rfl rfl ?_
          refine wq_iload_n rfl rfl ?_
          refine wq_iconst (v := nI 1) rfl (by decide) ?_
          refine wn_iushr rfl (by omega) (by omega) ?_
          refine wn_iadd rfl ?_
          refine wq_iret rfl trivial ?_
          have e : ntzN x = (1 + 2) + (((nd (x - 1) x) >>> 2) >>> 1) := by rw [ntzN, if_neg (Nat.ne_of_gt c9), ntz1, if_pos c38, ntz2, if_pos c52, ntz3, if_neg (Nat.not_le.mpr c64)]
          rw [← e, (ntz_ok ⟨x, hx⟩ h0).1]
          exact hQ
      · skip
        refine wq_iinc (v := nI (1 + 4)) (lv' := [.int (nI (nd (x - 1) x)), .int (nI (1 + 4))]) rfl rfl (nI_add _ _) rfl ?_
        refine wq_iload_n rfl rfl ?_
        refine wq_iconst (v := nI 4) rfl (by decide) ?_
        refine wn_iushr rfl (by omega) (by omega) ?_
        refine wq_istore_n (lv' := [.int (nI ((nd (x - 1) x) >>> 4)), .int (nI (1 + 4))]) rfl rfl rfl ?_
        have hw0 := shr_le (nd (x - 1) x) 2
        have hw1 := shr_le (nd (x - 1) x >>> 8) 2
        have hw2 := shr_le (nd (x - 1) x >>> 4) 2
        have hw3 := shr_le (nd (x - 1) x >>> 8 >>> 4) 2
        refine wq_iload_n rfl rfl ?_
        refine wq_iconst (v := nI 4) rfl (by decide) ?_
        refine wn_ic_le rfl (by omega) (by omega) (fun c64 => ?_) (fun c64 => ?_)
        · skip
          refine wq_iload_n rfl rfl ?_
          refine wq_iload_n rfl rfl ?_
          refine wq_iconst (v := nI 1) rfl (by decide) ?_
          refine wn_iushr rfl (by omega) (by omega) ?_
          refine wn_iadd rfl ?_
          refine wq_iret rfl trivial ?_
          have e : ntzN x = (1 + 4) + (((nd (x - 1) x) >>> 4) >>> 1) := by rw [ntzN, if_neg (Nat.ne_of_gt c9), ntz1, if_pos c38, ntz2, if_neg (Nat.not_le.mpr c52), ntz3, if_pos c64]
          rw [← e, (ntz_ok ⟨x, hx⟩ h0).1]
          exact hQ
        · skip
          refine wq_iinc (v := nI (1 + 4 + 2)) (lv' := [.int (nI ((nd (x - 1) x) >>> 4)), .int (nI (1 + 4 + 2))]) rfl rfl (nI_add _ _) rfl ?_
          refine wq_iload_n rfl rfl ?_
          refine wq_iconst (v := nI 2) rfl (by decide) ?_
          refine wn_iushr rfl (by omega) (by omega) ?_
          refine wq_istore_n (lv' := [.int (nI (((nd (x - 1) x) >>> 4) >>> 2)), .int (nI (1 + 4 + 2))]) rfl rfl rfl ?_
          refine wq_iload_n rfl rfl ?_
          refine wq_iload_n rfl rfl ?_
          refine wq_iconst (v := nI 1) rfl (by decide) ?_
          refine wn_iushr rfl (by omega) (by omega) ?_
          refine wn_iadd rfl ?_
          refine wq_iret rfl trivial ?_
          have e : ntzN x = (1 + 4 + 2) + ((((nd (x - 1) x) >>> 4) >>> 2) >>> 1) := by rw [ntzN, if_neg (Nat.ne_of_gt c9), ntz1, if_pos c38, ntz2, if_neg (Nat.not_le.mpr c52), ntz3, if_neg (Nat.not_le.mpr c64)]
          rw [← e, (ntz_ok ⟨x, hx⟩ h0).1]
          exact hQ
    · skip
      refine wq_iinc (v := nI (1 + 8)) (lv' := [.int (nI (nd (x - 1) x)), .int (nI (1 + 8))]) rfl rfl (nI_add _ _) rfl ?_
      refine wq_iload_n rfl rfl ?_
      refine wq_bipush (v := nI 8) rfl (by decide) ?_
      refine wn_iushr rfl (by omega) (by omega) ?_
      refine wq_istore_n (lv' := [.int (nI ((nd (x - 1) x) >>> 8)), .int (nI (1 + 8))]) rfl rfl rfl ?_
      have hz := shr_le (nd (x - 1) x) 4
      have hz8 := shr_le (nd (x - 1) x >>> 8) 4
      refine wq_iload_n rfl rfl ?_
      refine wq_bipush (v := nI 16) rfl (by decide) ?_
      refine wn_ic_le rfl (by omega) (by omega) (fun c52 => ?_) (fun c52 => ?_)
      · skip
        have hw0 := shr_le (nd (x - 1) x) 2
        have hw1 := shr_le (nd (x - 1) x >>> 8) 2
        have hw2 := shr_le (nd (x - 1) x >>> 4) 2
        have hw3 := shr_le (nd (x - 1) x >>> 8 >>> 4) 2
        refine wq_iload_n rfl rfl ?_
        refine wq_iconst (v := nI 4) rfl (by decide) ?_
        refine wn_ic_le rfl (by omega) (by omega) (fun c64 => ?_) (fun c64 => ?_)
        · skip
          refine wq_iload_n rfl rfl ?_
          refine wq_iload_n rfl rfl ?_
          refine wq_iconst (v := nI 1) rfl (by decide) ?_
          refine wn_iushr rfl (by omega) (by omega) ?_
          refine wn_iadd rfl ?_
          refine wq_iret rfl trivial ?_
          have e : ntzN x = (1 + 8) + (((nd (x - 1) x) >>> 8) >>> 1) := by rw [ntzN, if_neg (Nat.ne_of_gt c9), ntz1, if_neg (Nat.not_le.mpr c38), ntz2, if_pos c52, ntz3, if_pos c64]
          rw [← e, (ntz_ok ⟨x, hx⟩ h0).1]
          exact hQ
        · skip
          refine wq_iinc (v := nI (1 + 8 + 2)) (lv' := [.int (nI ((nd (x - 1) x) >>> 8)), .int (nI (1 + 8 + 2))]) rfl rfl (nI_add _ _) rfl ?_
          refine wq_iload_n rfl rfl ?_
          refine wq_iconst (v := nI 2) rfl (by decide) ?_
          refine wn_iushr rfl (by omega) (by omega) ?_
          refine wq_istore_n (lv' := [.int (nI (((nd (x - 1) x) >>> 8) >>> 2)), .int (nI (1 + 8 + 2))]) rfl rfl rfl ?_
          refine wq_iload_n rfl rfl ?_
          refine wq_iload_n rfl rfl ?_
          refine wq_iconst (v := nI 1) rfl (by decide) ?_
          refine wn_iushr rfl (by omega) (by omega) ?_
          refine wn_iadd rfl ?_
          refine wq_iret rfl trivial ?_
          have e : ntzN x = (1 + 8 + 2) + ((((nd (x - 1) x) >>> 8) >>> 2) >>> 1) := by rw [ntzN, if_neg (Nat.ne_of_gt c9), ntz1, if_neg (Nat.not_le.mpr c38), ntz2, if_pos c52, ntz3, if_neg (Nat.not_le.mpr c64)]
          rw [← e, (ntz_ok ⟨x, hx⟩ h0).1]
          exact hQ
      · skip
        refine wq_iinc (v := nI (1 + 8 + 4)) (lv' := [.int (nI ((nd (x - 1) x) >>> 8)), .int (nI (1 + 8 + 4))]) rfl rfl (nI_add _ _) rfl ?_
        refine wq_iload_n rfl rfl ?_
        refine wq_iconst (v := nI 4) rfl (by decide) ?_
        refine wn_iushr rfl (by omega) (by omega) ?_
        refine wq_istore_n (lv' := [.int (nI (((nd (x - 1) x) >>> 8) >>> 4)), .int (nI (1 + 8 + 4))]) rfl rfl rfl ?_
        have hw0 := shr_le (nd (x - 1) x) 2
        have hw1 := shr_le (nd (x - 1) x >>> 8) 2
        have hw2 := shr_le (nd (x - 1) x >>> 4) 2
        have hw3 := shr_le (nd (x - 1) x >>> 8 >>> 4) 2
        refine wq_iload_n rfl rfl ?_
        refine wq_iconst (v := nI 4) rfl (by decide) ?_
        refine wn_ic_le rfl (by omega) (by omega) (fun c64 => ?_) (fun c64 => ?_)
        · skip
          refine wq_iload_n rfl rfl ?_
          refine wq_iload_n rfl rfl ?_
          refine wq_iconst (v := nI 1) rfl (by decide) ?_
          refine wn_iushr rfl (by omega) (by omega) ?_
          refine wn_iadd rfl ?_
          refine wq_iret rfl trivial ?_
          have e : ntzN x = (1 + 8 + 4) + ((((nd (x - 1) x) >>> 8) >>> 4) >>> 1) := by rw [ntzN, if_neg (Nat.ne_of_gt c9), ntz1, if_neg (Nat.not_le.mpr c38), ntz2, if_neg (Nat.not_le.mpr c52), ntz3, if_pos c64]
          rw [← e, (ntz_ok ⟨x, hx⟩ h0).1]
          exact hQ
        · skip
          refine wq_iinc (v := nI (1 + 8 + 4 + 2)) (lv' := [.int (nI (((nd (x - 1) x) >>> 8) >>> 4)), .int (nI (1 + 8 + 4 + 2))]) rfl rfl (nI_add _ _) rfl ?_
          refine wq_iload_n rfl rfl ?_
          refine wq_iconst (v := nI 2) rfl (by decide) ?_
          refine wn_iushr rfl (by omega) (by omega) ?_
          refine wq_istore_n (lv' := [.int (nI ((((nd (x - 1) x) >>> 8) >>> 4) >>> 2)), .int (nI (1 + 8 + 4 + 2))]) rfl rfl rfl ?_
          refine wq_iload_n rfl rfl ?_
          refine wq_iload_n rfl rfl ?_
          refine wq_iconst (v := nI 1) rfl (by decide) ?_
          refine wn_iushr rfl (by omega) (by omega) ?_
          refine wn_iadd rfl ?_
          refine wq_iret rfl trivial ?_
          have e : ntzN x = (1 + 8 + 4 + 2) + (((((nd (x - 1) x) >>> 8) >>> 4) >>> 2) >>> 1) := by rw [ntzN, if_neg (Nat.ne_of_gt c9), ntz1, if_neg (Nat.not_le.mpr c38), ntz2, if_neg (Nat.not_le.mpr c52), ntz3, if_neg (Nat.not_le.mpr c64)]
          rw [← e, (ntz_ok ⟨x, hx⟩ h0).1]
          exact hQ
  · skip
    refine wq_iload_n rfl rfl ?_
    refine wq_bipush (v := nI 32) rfl (by decide) ?_
    refine wn_iand rfl ?_
    refine wq_iret rfl trivial ?_
    have e : ntzN x = (nd (x - 1) x) &&& 32 := if_pos c9
    rw [← e, (ntz_ok ⟨x, hx⟩ h0).1]
    exact hQ
theorem r_Z_lowestOf {d : Nat} {h : mH} {Q : Option Value → mH → Prop} {x : Nat} (hx : x < 512) (h0 : x ≠ 0) (hQ : Q (some (.int (nI (low9 x)))) h) : Rn mprog (d + 2) n_Z_lowestOf [.int (nI x)] h Q := by
  refine Rn.in rfl rfl rfl ?_
  show WP _ _ _ _ 0 [.int (nI x)] [] h
  refine wq_iload_n rfl rfl ?_
  refine wq_stat (a := [.int (nI x)]) (rest := []) rfl rfl rfl rfl rfl ?_
  refine r_ntz hx h0 ?_
  show WP _ _ _ _ 4 [.int (nI x)] [.int (nI (low9 x))] h
  refine wq_iret rfl trivial ?_
  exact hQ
theorem r_compare {d : Nat} {h : mH} {Q : Option Value → mH → Prop} {x y : Int32} (k1 : x < y → Q (some (.int (-1))) h) (k2 : x = y → Q (some (.int (nI 0))) h) (k3 : ¬ x < y → ¬ x = y → Q (some (.int (nI 1))) h) : Rn mprog (d + 1) n_Int_compare [.int x, .int y] h Q := by
  refine Rn.in rfl rfl rfl ?_
  show WP _ _ _ _ 0 [.int x, .int y] [] h
  refine wq_iload_n rfl rfl ?_
  refine wq_iload_n rfl rfl ?_
  refine wq_ic_ge rfl (fun c2 => ?_) (fun c2 => ?_)
  · skip
    refine wq_iload_n rfl rfl ?_
    refine wq_iload_n rfl rfl ?_
    refine wq_ic_ne rfl (fun c11 => ?_) (fun c11 => ?_)
    · skip
      refine wq_iconst (v := nI 1) rfl (by decide) ?_
      refine wq_iret rfl trivial ?_
      exact k3 (Int32.not_lt.mpr c2) c11
    · skip
      refine wq_iconst (v := nI 0) rfl (by decide) ?_
      refine wq_goto rfl ?_
      refine wq_iret rfl trivial ?_
      exact k2 c11
  · skip
    refine wq_iconst (v := (-1)) rfl (by decide) ?_
    refine wq_goto rfl ?_
    refine wq_iret rfl trivial ?_
    exact k1 (Int32.not_le.mp c2)
end
section
/-! fill, Net -/
def fz (v : Nat) (g : Nat → Nat) (i : Nat) : Nat → Nat := fun j => if j < i then v else g j
theorem fz_0 (v : Nat) (g : Nat → Nat) : fz v g 0 = g := by
  funext j
  unfold fz
  rw [if_neg (Nat.not_lt_zero j)]
theorem fz_s (v : Nat) (g : Nat → Nat) (i : Nat) : uN' (fz v g i) i v = fz v g (i + 1) := by
  funext j
  unfold uN' fz
  by_cases h : j = i
  · rw [if_pos h, if_pos (by omega)]
  · rw [if_neg h]
    by_cases h2 : j < i
    · rw [if_pos h2, if_pos (by omega)]
    · rw [if_neg h2, if_neg (by omega)]
theorem set_get {h : mH} {a : Nat} {e : va_E} (hl : a < h.length) : (h.set a e)[a]? = some e := by simp [hl]
theorem set_same {h : mH} {a : Nat} {e : va_E} (ho : h[a]? = some e) : h.set a e = h := by
  apply List.ext_getElem?
  intro i
  rw [List.getElem?_set]
  by_cases hi : a = i
  · subst hi
    have hl := (List.getElem?_eq_some_iff.mp ho).1
    rw [if_pos rfl, if_pos hl, ho]
  · rw [if_neg hi]
theorem l_fill {d a N v : Nat} {g : Nat → Nat} {h : mH} {Q : Option Value → mH → Prop} (hl : a < h.length) (hN : N < 2 ^ 31) (hQ : Q none (h.set a (.inl (0, N, .inl (nA (fz v g N)))))) : ∀ n i, i + n = N → WP (Rn mprog d) k_Arr_fill none Q 5 [.ref a, .int (nI v), .int (nI i), .int (nI N)] [] (h.set a (.inl (0, N, .inl (nA (fz v g i))))) := by
  intro n
  induction n with
  | zero =>
    intro i hi
    have e : i = N := by omega
    subst e
    refine wq_iload_n rfl rfl ?_
    refine wq_iload_n rfl rfl ?_
    refine wn_ic_ge rfl hN hN (fun _ => ?_) (fun c => absurd c (by omega))
    exact wq_vret rfl rfl hQ
  | succ n ih =>
    intro i hi
    refine wq_iload_n rfl rfl ?_
    refine wq_iload_n rfl rfl ?_
    refine wn_ic_ge rfl (by omega) hN (fun c => absurd c (by omega)) (fun _ => ?_)
    refine wq_aload_n rfl rfl ?_
    refine wq_iload_n rfl rfl ?_
    refine wq_iload_n rfl rfl ?_
    refine wn_iastore (g := fz v g i) (h' := h.set a (.inl (0, N, .inl (nA (fz v g (i + 1)))))) rfl (set_get hl) (by omega) hN (by rw [List.set_set, fz_s]) ?_
    refine wn_inc (lv' := [.ref a, .int (nI v), .int (nI (i + 1)), .int (nI N)]) rfl rfl rfl ?_
    refine wq_goto rfl ?_
    exact ih (i + 1) (by omega)
theorem r_fill {d a N v : Nat} {g : Nat → Nat} {h : mH} {Q : Option Value → mH → Prop} (ho : h[a]? = some (.inl (0, N, .inl (nA g)))) (hN : N < 2 ^ 31) (hQ : Q none (h.set a (.inl (0, N, .inl (nA (fz v g N)))))) : Rn mprog (d + 1) n_Arr_fill [.ref a, .int (nI v)] h Q := by
  refine Rn.in rfl rfl rfl ?_
  show WP _ _ _ _ 0 [.ref a, .int (nI v), .long 0, .long 0] [] h
  refine wq_iconst (v := nI 0) rfl (by decide) ?_
  refine wq_istore_n (lv' := [.ref a, .int (nI v), .int (nI 0), .long 0]) rfl rfl rfl ?_
  refine wq_aload_n rfl rfl ?_
  refine wq_alen (v := nI N) rfl ho rfl rfl ?_
  refine wq_istore_n (lv' := [.ref a, .int (nI v), .int (nI 0), .int (nI N)]) rfl rfl rfl ?_
  have q := l_fill (d := d) (g := g) (List.getElem?_eq_some_iff.mp ho).1 hN hQ N 0 (by omega)
  rw [fz_0, set_same ho] at q
  exact q
theorem r_Net_points {d b : Nat} {pre suf : mH} {pts : Nat} {edg : Nat} {nr : Nat → Nat} {Q : Option Value → mH → Prop} (hb : pre.length = b) (hQ : Q (some (.int (nI pts))) (nW b pre pts edg nr suf)) : Rn mprog (d + 1) n_Net_points [.ref b] (nW b pre pts edg nr suf) Q := by
  refine Rn.in rfl rfl rfl ?_
  show WP _ _ _ _ 0 [.ref b] [] (nW b pre pts edg nr suf)
  refine wq_aload_n rfl rfl ?_
  refine wq_getfield (v := .int (nI pts)) rfl (nW_o0 hb) rfl ?_
  refine wq_iret rfl trivial ?_
  exact hQ
theorem r_Net_edges {d b : Nat} {pre suf : mH} {pts : Nat} {edg : Nat} {nr : Nat → Nat} {Q : Option Value → mH → Prop} (hb : pre.length = b) (hQ : Q (some (.int (nI edg))) (nW b pre pts edg nr suf)) : Rn mprog (d + 1) n_Net_edges [.ref b] (nW b pre pts edg nr suf) Q := by
  refine Rn.in rfl rfl rfl ?_
  show WP _ _ _ _ 0 [.ref b] [] (nW b pre pts edg nr suf)
  refine wq_aload_n rfl rfl ?_
  refine wq_getfield (v := .int (nI edg)) rfl (nW_o0 hb) rfl ?_
  refine wq_iret rfl trivial ?_
  exact hQ
theorem r_Net_nearOf {d b : Nat} {pre suf : mH} {pts : Nat} {edg : Nat} {nr : Nat → Nat} {Q : Option Value → mH → Prop} (hb : pre.length = b) {p : Nat} (hp : p < 9) (hQ : Q (some (.int (nI (nr p)))) (nW b pre pts edg nr suf)) : Rn mprog (d + 2) n_Net_nearOf [.ref b, .int (nI p)] (nW b pre pts edg nr suf) Q := by
  refine Rn.in rfl rfl rfl ?_
  show WP _ _ _ _ 0 [.ref b, .int (nI p)] [] (nW b pre pts edg nr suf)
  refine wq_iload_n rfl rfl ?_
  refine wq_stat (a := [.int (nI p)]) (rest := []) rfl rfl rfl rfl rfl ?_
  refine r_Z_isPt (by omega) ?_
  show WP _ _ _ _ 4 [.ref b, .int (nI p)] [.int (nI 1)] (nW b pre pts edg nr suf)
  refine wq_if_eq rfl (fun c => absurd c (by decide)) (fun _ => ?_)
  refine wq_aload_n rfl rfl ?_
  refine wq_getfield (v := .ref (b + 1)) rfl (nW_o0 hb) rfl ?_
  refine wq_iload_n rfl rfl ?_
  refine wn_iaload (g := nr) rfl (nW_a1 hb) (by omega) (by decide) ?_
  refine wq_goto rfl ?_
  refine wq_iret rfl trivial ?_
  exact hQ
theorem r_Net_has {d b : Nat} {pre suf : mH} {pts : Nat} {edg : Nat} {nr : Nat → Nat} {Q : Option Value → mH → Prop} (hb : pre.length = b) {p : Nat} (hp : p < 9) (hpt : pts < 512) (kt : pts.testBit p = true → Q (some (.int (nI 1))) (nW b pre pts edg nr suf)) (kf : pts.testBit p = false → Q (some (.int (nI 0))) (nW b pre pts edg nr suf)) : Rn mprog (d + 2) n_Net_has [.ref b, .int (nI p)] (nW b pre pts edg nr suf) Q := by
  refine Rn.in rfl rfl rfl ?_
  show WP _ _ _ _ 0 [.ref b, .int (nI p)] [] (nW b pre pts edg nr suf)
  refine wq_iload_n rfl rfl ?_
  refine wq_stat (a := [.int (nI p)]) (rest := []) rfl rfl rfl rfl rfl ?_
  refine r_Z_isPt (by omega) ?_
  show WP _ _ _ _ 4 [.ref b, .int (nI p)] [.int (nI 1)] (nW b pre pts edg nr suf)
  refine wq_if_eq rfl (fun c => absurd c (by decide)) (fun _ => ?_)
  refine wq_aload_n rfl rfl ?_
  refine wq_getfield (v := .int (nI pts)) rfl (nW_o0 hb) rfl ?_
  refine wq_iload_n rfl rfl ?_
  refine wq_stat (a := [.int (nI pts), .int (nI p)]) (rest := []) rfl rfl rfl rfl rfl ?_
  refine r_Z_isIn (by omega) (by omega) (fun c12 => ?_) (fun c12 => ?_)
  · skip
    show WP _ _ _ _ 15 [.ref b, .int (nI p)] [.int (nI 1)] (nW b pre pts edg nr suf)
    refine wq_if_eq rfl (fun c => absurd c (by decide)) (fun _ => ?_)
    refine wq_iconst (v := nI 1) rfl (by decide) ?_
    refine wq_goto rfl ?_
    refine wq_iret rfl (by first | exact Or.inl rfl | exact Or.inr rfl) ?_
    exact kt c12
  · skip
    show WP _ _ _ _ 15 [.ref b, .int (nI p)] [.int (nI 0)] (nW b pre pts edg nr suf)
    refine wq_if_eq rfl (fun _ => ?_) (fun c => absurd c (by decide))
    refine wq_iconst (v := nI 0) rfl (by decide) ?_
    refine wq_iret rfl (by first | exact Or.inl rfl | exact Or.inr rfl) ?_
    exact kf c12
theorem r_Net_joined {d b : Nat} {pre suf : mH} {pts : Nat} {edg : Nat} {nr : Nat → Nat} {Q : Option Value → mH → Prop} (hb : pre.length = b) {p q : Nat} (hp : p < 9) (hq : q < 9) (hnr : ∀ p, p < 9 → nr p < 512) (kt : (nr p).testBit q = true → Q (some (.int (nI 1))) (nW b pre pts edg nr suf)) (kf : (nr p).testBit q = false → Q (some (.int (nI 0))) (nW b pre pts edg nr suf)) : Rn mprog (d + 3) n_Net_joined [.ref b, .int (nI p), .int (nI q)] (nW b pre pts edg nr suf) Q := by
  refine Rn.in rfl rfl rfl ?_
  show WP _ _ _ _ 0 [.ref b, .int (nI p), .int (nI q)] [] (nW b pre pts edg nr suf)
  have hnp := hnr p hp
  refine wq_iload_n rfl rfl ?_
  refine wq_stat (a := [.int (nI q)]) (rest := []) rfl rfl rfl rfl rfl ?_
  refine r_Z_isPt (by omega) ?_
  show WP _ _ _ _ 4 [.ref b, .int (nI p), .int (nI q)] [.int (nI 1)] (nW b pre pts edg nr suf)
  refine wq_if_eq rfl (fun c => absurd c (by decide)) (fun _ => ?_)
  refine wq_aload_n rfl rfl ?_
  refine wq_iload_n rfl rfl ?_
  refine wq_virt (b := b) (a := [.int (nI p)]) (rest := []) rfl rfl rfl rfl rfl (nW_o0 hb) ?_
  refine r_Net_nearOf hb (by omega) ?_
  show WP _ _ _ _ 12 [.ref b, .int (nI p), .int (nI q)] [.int (nI (nr p))] (nW b pre pts edg nr suf)
  refine wq_iload_n rfl rfl ?_
  refine wq_stat (a := [.int (nI (nr p)), .int (nI q)]) (rest := []) rfl rfl rfl rfl rfl ?_
  refine r_Z_isIn (by omega) (by omega) (fun c13 => ?_) (fun c13 => ?_)
  · skip
    show WP _ _ _ _ 16 [.ref b, .int (nI p), .int (nI q)] [.int (nI 1)] (nW b pre pts edg nr suf)
    refine wq_if_eq rfl (fun c => absurd c (by decide)) (fun _ => ?_)
    refine wq_iconst (v := nI 1) rfl (by decide) ?_
    refine wq_goto rfl ?_
    refine wq_iret rfl (by first | exact Or.inl rfl | exact Or.inr rfl) ?_
    exact kt c13
  · skip
    show WP _ _ _ _ 16 [.ref b, .int (nI p), .int (nI q)] [.int (nI 0)] (nW b pre pts edg nr suf)
    refine wq_if_eq rfl (fun _ => ?_) (fun c => absurd c (by decide))
    refine wq_iconst (v := nI 0) rfl (by decide) ?_
    refine wq_iret rfl (by first | exact Or.inl rfl | exact Or.inr rfl) ?_
    exact kf c13
theorem r_Net_canDo {d b : Nat} {pre suf : mH} {pts : Nat} {edg : Nat} {nr : Nat → Nat} {Q : Option Value → mH → Prop} (hb : pre.length = b) {ac : Nat} (hac : ac < 1024) (hA : ac >>> 4 &&& 15 < 9) (hB : ac &&& 15 < 9) (hpt : pts < 512) (hnr : ∀ p, p < 9 → nr p < 512) (kt : mayB pts nr (ac >>> 8) (ac >>> 4 &&& 15) (ac &&& 15) = true → Q (some (.int (nI 1))) (nW b pre pts edg nr suf)) (kf : mayB pts nr (ac >>> 8) (ac >>> 4 &&& 15) (ac &&& 15) = false → Q (some (.int (nI 0))) (nW b pre pts edg nr suf)) : Rn mprog (d + 4) n_Net_canDo [.ref b, .int (nI ac)] (nW b pre pts edg nr suf) Q := by
  refine Rn.in rfl rfl rfl ?_
  show WP _ _ _ _ 0 [.ref b, .int (nI ac), .long 0, .long 0] [] (nW b pre pts edg nr suf)
  refine wq_iload_n rfl rfl ?_
  refine wq_stat (a := [.int (nI ac)]) (rest := []) rfl rfl rfl rfl rfl ?_
  refine r_Z_lowOf (by omega) ?_
  show WP _ _ _ _ 4 [.ref b, .int (nI ac), .long 0, .long 0] [.int (nI (ac >>> 4 &&& 15))] (nW b pre pts edg nr suf)
  refine wq_istore_n (lv' := [.ref b, .int (nI ac), .int (nI (ac >>> 4 &&& 15)), .long 0]) rfl rfl rfl ?_
  refine wq_iload_n rfl rfl ?_
  refine wq_stat (a := [.int (nI ac)]) (rest := []) rfl rfl rfl rfl rfl ?_
  refine r_Z_highOf ?_
  show WP _ _ _ _ 9 [.ref b, .int (nI ac), .int (nI (ac >>> 4 &&& 15)), .long 0] [.int (nI (ac &&& 15))] (nW b pre pts edg nr suf)
  refine wq_istore_n (lv' := [.ref b, .int (nI ac), .int (nI (ac >>> 4 &&& 15)), .int (nI (ac &&& 15))]) rfl rfl rfl ?_
  refine wq_iload_n rfl rfl ?_
  refine wq_stat (a := [.int (nI (ac >>> 4 &&& 15))]) (rest := []) rfl rfl rfl rfl rfl ?_
  refine r_Z_isPt (by omega) ?_
  show WP _ _ _ _ 14 [.ref b, .int (nI ac), .int (nI (ac >>> 4 &&& 15)), .int (nI (ac &&& 15))] [.int (nI 1)] (nW b pre pts edg nr suf)
  refine wq_if_eq rfl (fun c => absurd c (by decide)) (fun _ => ?_)
  refine wq_iload_n rfl rfl ?_
  refine wq_stat (a := [.int (nI (ac &&& 15))]) (rest := []) rfl rfl rfl rfl rfl ?_
  refine r_Z_isPt (by omega) ?_
  show WP _ _ _ _ 21 [.ref b, .int (nI ac), .int (nI (ac >>> 4 &&& 15)), .int (nI (ac &&& 15))] [.int (nI 1)] (nW b pre pts edg nr suf)
  refine wq_if_ne rfl (fun _ => ?_) (fun c => absurd c (by decide))
  have hk4 : ac >>> 8 = 0 ∨ ac >>> 8 = 1 ∨ ac >>> 8 = 2 ∨ ac >>> 8 = 3 := by
    have : ac >>> 8 < 4 := by
      rw [Nat.shiftRight_eq_div_pow]
      omega
    omega
  refine wq_iload_n rfl rfl ?_
  refine wq_stat (a := [.int (nI ac)]) (rest := []) rfl rfl rfl rfl rfl ?_
  refine r_Z_kindOf (by omega) ?_
  show WP _ _ _ _ 30 [.ref b, .int (nI ac), .int (nI (ac >>> 4 &&& 15)), .int (nI (ac &&& 15))] [.int (nI (ac >>> 8))] (nW b pre pts edg nr suf)
  rcases hk4 with e30 | e30 | e30 | e30
  · refine wq_tsw (t := 60) rfl (by rw [e30]; decide) ?_
    refine wq_aload_n rfl rfl ?_
    refine wq_iload_n rfl rfl ?_
    refine wq_virt (b := b) (a := [.int (nI (ac >>> 4 &&& 15))]) (rest := []) rfl rfl rfl rfl rfl (nW_o0 hb) ?_
    refine r_Net_has hb (by omega) (by omega) (fun c62 => ?_) (fun c62 => ?_)
    · skip
      show WP _ _ _ _ 65 [.ref b, .int (nI ac), .int (nI (ac >>> 4 &&& 15)), .int (nI (ac &&& 15))] [.int (nI 1)] (nW b pre pts edg nr suf)
      refine wq_if_ne rfl (fun _ => ?_) (fun c => absurd c (by decide))
      refine wq_iconst (v := nI 0) rfl (by decide) ?_
      refine wq_iret rfl (by first | exact Or.inl rfl | exact Or.inr rfl) ?_
      exact kf (by simp [mayB, e30, c62])
    · skip
      show WP _ _ _ _ 65 [.ref b, .int (nI ac), .int (nI (ac >>> 4 &&& 15)), .int (nI (ac &&& 15))] [.int (nI 0)] (nW b pre pts edg nr suf)
      refine wq_if_ne rfl (fun c => absurd c (by decide)) (fun _ => ?_)
      refine wq_iconst (v := nI 1) rfl (by decide) ?_
      refine wq_goto rfl ?_
      refine wq_iret rfl (by first | exact Or.inl rfl | exact Or.inr rfl) ?_
      exact kt (by simp [mayB, e30, c62])
  · refine wq_tsw (t := 74) rfl (by rw [e30]; decide) ?_
    refine wq_aload_n rfl rfl ?_
    refine wq_iload_n rfl rfl ?_
    refine wq_virt (b := b) (a := [.int (nI (ac >>> 4 &&& 15))]) (rest := []) rfl rfl rfl rfl rfl (nW_o0 hb) ?_
    refine r_Net_has hb (by omega) (by omega) (fun c76 => ?_) (fun c76 => ?_)
    · skip
      show WP _ _ _ _ 79 [.ref b, .int (nI ac), .int (nI (ac >>> 4 &&& 15)), .int (nI (ac &&& 15))] [.int (nI 1)] (nW b pre pts edg nr suf)
      refine wq_if_eq rfl (fun c => absurd c (by decide)) (fun _ => ?_)
      refine wq_aload_n rfl rfl ?_
      refine wq_iload_n rfl rfl ?_
      have hnA := hnr _ hA
      refine wq_virt (b := b) (a := [.int (nI (ac >>> 4 &&& 15))]) (rest := []) rfl rfl rfl rfl rfl (nW_o0 hb) ?_
      refine r_Net_nearOf hb (by omega) ?_
      show WP _ _ _ _ 87 [.ref b, .int (nI ac), .int (nI (ac >>> 4 &&& 15)), .int (nI (ac &&& 15))] [.int (nI (nr (ac >>> 4 &&& 15)))] (nW b pre pts edg nr suf)
      refine wn_if_ne rfl (by omega) (fun c87 => ?_) (fun c87 => ?_)
      · skip
        refine wq_iconst (v := nI 0) rfl (by decide) ?_
        refine wq_iret rfl (by first | exact Or.inl rfl | exact Or.inr rfl) ?_
        exact kf (by simp [mayB, e30, c76, c87])
      · skip
        refine wq_iconst (v := nI 1) rfl (by decide) ?_
        refine wq_goto rfl ?_
        refine wq_iret rfl (by first | exact Or.inl rfl | exact Or.inr rfl) ?_
        exact kt (by simp [mayB, e30, c76, c87])
    · skip
      show WP _ _ _ _ 79 [.ref b, .int (nI ac), .int (nI (ac >>> 4 &&& 15)), .int (nI (ac &&& 15))] [.int (nI 0)] (nW b pre pts edg nr suf)
      refine wq_if_eq rfl (fun _ => ?_) (fun c => absurd c (by decide))
      refine wq_iconst (v := nI 0) rfl (by decide) ?_
      refine wq_iret rfl (by first | exact Or.inl rfl | exact Or.inr rfl) ?_
      exact kf (by simp [mayB, e30, c76])
  · refine wq_tsw (t := 96) rfl (by rw [e30]; decide) ?_
    refine wq_iload_n rfl rfl ?_
    refine wq_iload_n rfl rfl ?_
    refine wn_ic_eq rfl (by omega) (by omega) (fun c98 => ?_) (fun c98 => ?_)
    · skip
      refine wq_iconst (v := nI 0) rfl (by decide) ?_
      refine wq_iret rfl (by first | exact Or.inl rfl | exact Or.inr rfl) ?_
      exact kf (by simp [mayB, e30, c98])
    · skip
      refine wq_aload_n rfl rfl ?_
      refine wq_iload_n rfl rfl ?_
      refine wq_virt (b := b) (a := [.int (nI (ac >>> 4 &&& 15))]) (rest := []) rfl rfl rfl rfl rfl (nW_o0 hb) ?_
      refine r_Net_has hb (by omega) (by omega) (fun c103 => ?_) (fun c103 => ?_)
      · skip
        show WP _ _ _ _ 106 [.ref b, .int (nI ac), .int (nI (ac >>> 4 &&& 15)), .int (nI (ac &&& 15))] [.int (nI 1)] (nW b pre pts edg nr suf)
        refine wq_if_eq rfl (fun c => absurd c (by decide)) (fun _ => ?_)
        refine wq_aload_n rfl rfl ?_
        refine wq_iload_n rfl rfl ?_
        refine wq_virt (b := b) (a := [.int (nI (ac &&& 15))]) (rest := []) rfl rfl rfl rfl rfl (nW_o0 hb) ?_
        refine r_Net_has hb (by omega) (by omega) (fun c111 => ?_) (fun c111 => ?_)
        · skip
          show WP _ _ _ _ 114 [.ref b, .int (nI ac), .int (nI (ac >>> 4 &&& 15)), .int (nI (ac &&& 15))] [.int (nI 1)] (nW b pre pts edg nr suf)
          refine wq_if_eq rfl (fun c => absurd c (by decide)) (fun _ => ?_)
          refine wq_aload_n rfl rfl ?_
          refine wq_iload_n rfl rfl ?_
          refine wq_iload_n rfl rfl ?_
          refine wq_virt (b := b) (a := [.int (nI (ac >>> 4 &&& 15)), .int (nI (ac &&& 15))]) (rest := []) rfl rfl rfl rfl rfl (nW_o0 hb) ?_
          refine r_Net_joined hb (by omega) (by omega) hnr (fun c120 => ?_) (fun c120 => ?_)
          · skip
            show WP _ _ _ _ 123 [.ref b, .int (nI ac), .int (nI (ac >>> 4 &&& 15)), .int (nI (ac &&& 15))] [.int (nI 1)] (nW b pre pts edg nr suf)
            refine wq_if_ne rfl (fun _ => ?_) (fun c => absurd c (by decide))
            refine wq_iconst (v := nI 0) rfl (by decide) ?_
            refine wq_iret rfl (by first | exact Or.inl rfl | exact Or.inr rfl) ?_
            exact kf (by simp [mayB, e30, c98, c103, c111, c120])
          · skip
            show WP _ _ _ _ 123 [.ref b, .int (nI ac), .int (nI (ac >>> 4 &&& 15)), .int (nI (ac &&& 15))] [.int (nI 0)] (nW b pre pts edg nr suf)
            refine wq_if_ne rfl (fun c => absurd c (by decide)) (fun _ => ?_)
            refine wq_iconst (v := nI 1) rfl (by decide) ?_
            refine wq_goto rfl ?_
            refine wq_iret rfl (by first | exact Or.inl rfl | exact Or.inr rfl) ?_
            exact kt (by simp [mayB, e30, c98, c103, c111, c120])
        · skip
          show WP _ _ _ _ 114 [.ref b, .int (nI ac), .int (nI (ac >>> 4 &&& 15)), .int (nI (ac &&& 15))] [.int (nI 0)] (nW b pre pts edg nr suf)
          refine wq_if_eq rfl (fun _ => ?_) (fun c => absurd c (by decide))
          refine wq_iconst (v := nI 0) rfl (by decide) ?_
          refine wq_iret rfl (by first | exact Or.inl rfl | exact Or.inr rfl) ?_
          exact kf (by simp [mayB, e30, c98, c103, c111])
      · skip
        show WP _ _ _ _ 106 [.ref b, .int (nI ac), .int (nI (ac >>> 4 &&& 15)), .int (nI (ac &&& 15))] [.int (nI 0)] (nW b pre pts edg nr suf)
        refine wq_if_eq rfl (fun _ => ?_) (fun c => absurd c (by decide))
        refine wq_iconst (v := nI 0) rfl (by decide) ?_
        refine wq_iret rfl (by first | exact Or.inl rfl | exact Or.inr rfl) ?_
        exact kf (by simp [mayB, e30, c98, c103])
  · refine wq_tsw (t := 132) rfl (by rw [e30]; decide) ?_
    refine wq_aload_n rfl rfl ?_
    refine wq_iload_n rfl rfl ?_
    refine wq_iload_n rfl rfl ?_
    refine wq_virt (b := b) (a := [.int (nI (ac >>> 4 &&& 15)), .int (nI (ac &&& 15))]) (rest := []) rfl rfl rfl rfl rfl (nW_o0 hb) ?_
    refine r_Net_joined hb (by omega) (by omega) hnr (fun c135 => ?_) (fun c135 => ?_)
    · skip
      show WP _ _ _ _ 138 [.ref b, .int (nI ac), .int (nI (ac >>> 4 &&& 15)), .int (nI (ac &&& 15))] [.int (nI 1)] (nW b pre pts edg nr suf)
      refine wq_iret rfl (by first | exact Or.inl rfl | exact Or.inr rfl) ?_
      exact kt (by simp [mayB, e30, c135])
    · skip
      show WP _ _ _ _ 138 [.ref b, .int (nI ac), .int (nI (ac >>> 4 &&& 15)), .int (nI (ac &&& 15))] [.int (nI 0)] (nW b pre pts edg nr suf)
      refine wq_iret rfl (by first | exact Or.inl rfl | exact Or.inr rfl) ?_
      exact kf (by simp [mayB, e30, c135])
theorem r_Net_canDo_no {d b : Nat} {pre suf : mH} {pts : Nat} {edg : Nat} {nr : Nat → Nat} {Q : Option Value → mH → Prop} (hb : pre.length = b) (hQ : Q (some (.int (nI 0))) (nW b pre pts edg nr suf)) : Rn mprog (d + 4) n_Net_canDo [.ref b, .int ((-1))] (nW b pre pts edg nr suf) Q := by
  refine Rn.in rfl rfl rfl ?_
  show WP _ _ _ _ 0 [.ref b, .int ((-1)), .long 0, .long 0] [] (nW b pre pts edg nr suf)
  refine wq_iload_n rfl rfl ?_
  refine wq_stat (a := [.int ((-1))]) (rest := []) rfl rfl rfl rfl rfl ?_
  refine r_Z_lowOf_no ?_
  show WP _ _ _ _ 4 [.ref b, .int ((-1)), .long 0, .long 0] [.int (nI 15)] (nW b pre pts edg nr suf)
  refine wq_istore_n (lv' := [.ref b, .int ((-1)), .int (nI 15), .long 0]) rfl rfl rfl ?_
  refine wq_iload_n rfl rfl ?_
  refine wq_stat (a := [.int ((-1))]) (rest := []) rfl rfl rfl rfl rfl ?_
  refine r_Z_highOf_no ?_
  show WP _ _ _ _ 9 [.ref b, .int ((-1)), .int (nI 15), .long 0] [.int (nI 15)] (nW b pre pts edg nr suf)
  refine wq_istore_n (lv' := [.ref b, .int ((-1)), .int (nI 15), .int (nI 15)]) rfl rfl rfl ?_
  refine wq_iload_n rfl rfl ?_
  refine wq_stat (a := [.int (nI 15)]) (rest := []) rfl rfl rfl rfl rfl ?_
  refine r_Z_isPoint (fun c => absurd c (by decide)) (fun _ => ?_)
  show WP _ _ _ _ 14 [.ref b, .int ((-1)), .int (nI 15), .int (nI 15)] [.int (nI 0)] (nW b pre pts edg nr suf)
  refine wq_if_eq rfl (fun _ => ?_) (fun c => absurd c (by decide))
  refine wq_iconst (v := nI 0) rfl (by decide) ?_
  refine wq_iret rfl (by first | exact Or.inl rfl | exact Or.inr rfl) ?_
  exact hQ
def nrX (nr : Nat → Nat) (A B : Nat) : Nat → Nat := uN' (uN' nr A (nr A ^^^ 1 <<< B)) B (uN' nr A (nr A ^^^ 1 <<< B) B ^^^ 1 <<< A)
theorem nI_dec {a : Nat} (h : 0 < a) : nI a + (-1) = nI (a - 1) := by
  obtain ⟨m, rfl⟩ : ∃ m, a = m + 1 := ⟨a - 1, by omega⟩
  exact pk_m1 m
theorem r_Net_change {d b : Nat} {pre suf : mH} {pts : Nat} {edg : Nat} {nr : Nat → Nat} {Q : Option Value → mH → Prop} (hb : pre.length = b) {ac : Nat} (hac : ac < 1024) (hA : ac >>> 4 &&& 15 < 9) (hB : ac &&& 15 < 9) (hnr : ∀ p, p < 9 → nr p < 512) (k0 : ¬ (ac >>> 8 = 2 ∨ ac >>> 8 = 3) → Q none (nW b pre (pts ^^^ 1 <<< (ac >>> 4 &&& 15)) edg nr suf)) (k1 : (nr (ac >>> 4 &&& 15)).testBit (ac &&& 15) = true → Q none (nW b pre pts (edg - 1) (nrX nr (ac >>> 4 &&& 15) (ac &&& 15)) suf)) (k2 : (nr (ac >>> 4 &&& 15)).testBit (ac &&& 15) = false → Q none (nW b pre pts (edg + 1) (nrX nr (ac >>> 4 &&& 15) (ac &&& 15)) suf)) (he : (nr (ac >>> 4 &&& 15)).testBit (ac &&& 15) = true → 0 < edg) : Rn mprog (d + 4) n_Net_change [.ref b, .int (nI ac)] (nW b pre pts edg nr suf) Q := by
  refine Rn.in rfl rfl rfl ?_
  show WP _ _ _ _ 0 [.ref b, .int (nI ac), .long 0, .long 0] [] (nW b pre pts edg nr suf)
  refine wq_iload_n rfl rfl ?_
  refine wq_stat (a := [.int (nI ac)]) (rest := []) rfl rfl rfl rfl rfl ?_
  refine r_Z_lowOf (by omega) ?_
  show WP _ _ _ _ 4 [.ref b, .int (nI ac), .long 0, .long 0] [.int (nI (ac >>> 4 &&& 15))] (nW b pre pts edg nr suf)
  refine wq_istore_n (lv' := [.ref b, .int (nI ac), .int (nI (ac >>> 4 &&& 15)), .long 0]) rfl rfl rfl ?_
  refine wq_iload_n rfl rfl ?_
  refine wq_stat (a := [.int (nI ac)]) (rest := []) rfl rfl rfl rfl rfl ?_
  refine r_Z_highOf ?_
  show WP _ _ _ _ 9 [.ref b, .int (nI ac), .int (nI (ac >>> 4 &&& 15)), .long 0] [.int (nI (ac &&& 15))] (nW b pre pts edg nr suf)
  refine wq_istore_n (lv' := [.ref b, .int (nI ac), .int (nI (ac >>> 4 &&& 15)), .int (nI (ac &&& 15))]) rfl rfl rfl ?_
  refine wq_iload_n rfl rfl ?_
  refine wq_stat (a := [.int (nI (ac >>> 4 &&& 15))]) (rest := []) rfl rfl rfl rfl rfl ?_
  refine r_Z_isPt (by omega) ?_
  show WP _ _ _ _ 14 [.ref b, .int (nI ac), .int (nI (ac >>> 4 &&& 15)), .int (nI (ac &&& 15))] [.int (nI 1)] (nW b pre pts edg nr suf)
  refine wq_if_eq rfl (fun c => absurd c (by decide)) (fun _ => ?_)
  refine wq_iload_n rfl rfl ?_
  refine wq_stat (a := [.int (nI (ac &&& 15))]) (rest := []) rfl rfl rfl rfl rfl ?_
  refine r_Z_isPt (by omega) ?_
  show WP _ _ _ _ 21 [.ref b, .int (nI ac), .int (nI (ac >>> 4 &&& 15)), .int (nI (ac &&& 15))] [.int (nI 1)] (nW b pre pts edg nr suf)
  refine wq_if_ne rfl (fun _ => ?_) (fun c => absurd c (by decide))
  have hsA := Nat.lt_trans (sh_lt (n := 9) hA) (show 2 ^ 9 < 2 ^ 32 by decide)
  have hsB := Nat.lt_trans (sh_lt (n := 9) hB) (show 2 ^ 9 < 2 ^ 32 by decide)
  refine wq_iload_n rfl rfl ?_
  refine wq_stat (a := [.int (nI ac)]) (rest := []) rfl rfl rfl rfl rfl ?_
  refine r_Z_kindOf (by omega) ?_
  show WP _ _ _ _ 29 [.ref b, .int (nI ac), .int (nI (ac >>> 4 &&& 15)), .int (nI (ac &&& 15))] [.int (nI (ac >>> 8))] (nW b pre pts edg nr suf)
  refine wq_stat (a := [.int (nI (ac >>> 8))]) (rest := []) rfl rfl rfl rfl rfl ?_
  refine r_Z_isOfEdge (fun c29 => ?_) (fun c29 => ?_)
  · skip
    show WP _ _ _ _ 32 [.ref b, .int (nI ac), .int (nI (ac >>> 4 &&& 15)), .int (nI (ac &&& 15))] [.int (nI 1)] (nW b pre pts edg nr suf)
    refine wq_if_ne rfl (fun _ => ?_) (fun c => absurd c (by decide))
    refine wq_aload_n rfl rfl ?_
    refine wq_dup rfl rfl ?_
    refine wq_getfield (v := .int (nI edg)) rfl (nW_o0 hb) rfl ?_
    refine wq_aload_n rfl rfl ?_
    refine wq_iload_n rfl rfl ?_
    refine wq_iload_n rfl rfl ?_
    refine wq_virt (b := b) (a := [.int (nI (ac >>> 4 &&& 15)), .int (nI (ac &&& 15))]) (rest := [.int (nI edg), .ref b]) rfl rfl rfl rfl rfl (nW_o0 hb) ?_
    refine r_Net_joined hb (by omega) (by omega) hnr (fun c56 => ?_) (fun c56 => ?_)
    · skip
      show WP _ _ _ _ 59 [.ref b, .int (nI ac), .int (nI (ac >>> 4 &&& 15)), .int (nI (ac &&& 15))] [.int (nI 1), .int (nI edg), .ref b] (nW b pre pts edg nr suf)
      refine wq_if_eq rfl (fun c => absurd c (by decide)) (fun _ => ?_)
      refine wq_iconst (v := (-1)) rfl (by decide) ?_
      refine wq_goto rfl ?_
      have he1 := he c56
      refine wq_iadd (v := nI (edg - 1)) rfl (nI_dec he1) ?_
      refine wq_putfield (h' := nW b pre pts (edg - 1) nr suf) rfl (nW_o0 hb) rfl (nW_s0_2 hb) ?_
      refine wq_aload_n rfl rfl ?_
      refine wq_getfield (v := .ref (b + 1)) rfl (nW_o0 hb) rfl ?_
      refine wq_iload_n rfl rfl ?_
      refine wq_dup2 rfl rfl rfl ?_
      refine wn_iaload (g := nr) rfl (nW_a1 hb) (by omega) (by decide) ?_
      refine wq_iconst (v := nI 1) rfl (by decide) ?_
      refine wq_iload_n rfl rfl ?_
      refine wn_ishl rfl (by omega) hsB ?_
      refine wn_ixor rfl ?_
      refine wn_iastore (g := nr) (h' := nW b pre pts (edg - 1) (uN' nr (ac >>> 4 &&& 15) ((nr (ac >>> 4 &&& 15)) ^^^ (1 <<< (ac &&& 15)))) suf) rfl (nW_a1 hb) (by omega) (by decide) (nW_t1 hb) ?_
      refine wq_aload_n rfl rfl ?_
      refine wq_getfield (v := .ref (b + 1)) rfl (nW_o0 hb) rfl ?_
      refine wq_iload_n rfl rfl ?_
      refine wq_dup2 rfl rfl rfl ?_
      refine wn_iaload (g := (uN' nr (ac >>> 4 &&& 15) ((nr (ac >>> 4 &&& 15)) ^^^ (1 <<< (ac &&& 15))))) rfl (nW_a1 hb) (by omega) (by decide) ?_
      refine wq_iconst (v := nI 1) rfl (by decide) ?_
      refine wq_iload_n rfl rfl ?_
      refine wn_ishl rfl (by omega) hsA ?_
      refine wn_ixor rfl ?_
      refine wn_iastore (g := (uN' nr (ac >>> 4 &&& 15) ((nr (ac >>> 4 &&& 15)) ^^^ (1 <<< (ac &&& 15))))) (h' := nW b pre pts (edg - 1) (uN' ((uN' nr (ac >>> 4 &&& 15) ((nr (ac >>> 4 &&& 15)) ^^^ (1 <<< (ac &&& 15))))) (ac &&& 15) ((((uN' nr (ac >>> 4 &&& 15) ((nr (ac >>> 4 &&& 15)) ^^^ (1 <<< (ac &&& 15))))) (ac &&& 15)) ^^^ (1 <<< (ac >>> 4 &&& 15)))) suf) rfl (nW_a1 hb) (by omega) (by decide) (nW_t1 hb) ?_
      refine wq_vret rfl rfl ?_
      exact k1 c56
    · skip
      show WP _ _ _ _ 59 [.ref b, .int (nI ac), .int (nI (ac >>> 4 &&& 15)), .int (nI (ac &&& 15))] [.int (nI 0), .int (nI edg), .ref b] (nW b pre pts edg nr suf)
      refine wq_if_eq rfl (fun _ => ?_) (fun c => absurd c (by decide))
      refine wq_iconst (v := nI 1) rfl (by decide) ?_
      refine wn_iadd rfl ?_
      refine wq_putfield (h' := nW b pre pts (edg + 1) nr suf) rfl (nW_o0 hb) rfl (nW_s0_2 hb) ?_
      refine wq_aload_n rfl rfl ?_
      refine wq_getfield (v := .ref (b + 1)) rfl (nW_o0 hb) rfl ?_
      refine wq_iload_n rfl rfl ?_
      refine wq_dup2 rfl rfl rfl ?_
      refine wn_iaload (g := nr) rfl (nW_a1 hb) (by omega) (by decide) ?_
      refine wq_iconst (v := nI 1) rfl (by decide) ?_
      refine wq_iload_n rfl rfl ?_
      refine wn_ishl rfl (by omega) hsB ?_
      refine wn_ixor rfl ?_
      refine wn_iastore (g := nr) (h' := nW b pre pts (edg + 1) (uN' nr (ac >>> 4 &&& 15) ((nr (ac >>> 4 &&& 15)) ^^^ (1 <<< (ac &&& 15)))) suf) rfl (nW_a1 hb) (by omega) (by decide) (nW_t1 hb) ?_
      refine wq_aload_n rfl rfl ?_
      refine wq_getfield (v := .ref (b + 1)) rfl (nW_o0 hb) rfl ?_
      refine wq_iload_n rfl rfl ?_
      refine wq_dup2 rfl rfl rfl ?_
      refine wn_iaload (g := (uN' nr (ac >>> 4 &&& 15) ((nr (ac >>> 4 &&& 15)) ^^^ (1 <<< (ac &&& 15))))) rfl (nW_a1 hb) (by omega) (by decide) ?_
      refine wq_iconst (v := nI 1) rfl (by decide) ?_
      refine wq_iload_n rfl rfl ?_
      refine wn_ishl rfl (by omega) hsA ?_
      refine wn_ixor rfl ?_
      refine wn_iastore (g := (uN' nr (ac >>> 4 &&& 15) ((nr (ac >>> 4 &&& 15)) ^^^ (1 <<< (ac &&& 15))))) (h' := nW b pre pts (edg + 1) (uN' ((uN' nr (ac >>> 4 &&& 15) ((nr (ac >>> 4 &&& 15)) ^^^ (1 <<< (ac &&& 15))))) (ac &&& 15) ((((uN' nr (ac >>> 4 &&& 15) ((nr (ac >>> 4 &&& 15)) ^^^ (1 <<< (ac &&& 15))))) (ac &&& 15)) ^^^ (1 <<< (ac >>> 4 &&& 15)))) suf) rfl (nW_a1 hb) (by omega) (by decide) (nW_t1 hb) ?_
      refine wq_vret rfl rfl ?_
      exact k2 c56
  · skip
    show WP _ _ _ _ 32 [.ref b, .int (nI ac), .int (nI (ac >>> 4 &&& 15)), .int (nI (ac &&& 15))] [.int (nI 0)] (nW b pre pts edg nr suf)
    refine wq_if_ne rfl (fun c => absurd c (by decide)) (fun _ => ?_)
    refine wq_aload_n rfl rfl ?_
    refine wq_dup rfl rfl ?_
    refine wq_getfield (v := .int (nI pts)) rfl (nW_o0 hb) rfl ?_
    refine wq_iconst (v := nI 1) rfl (by decide) ?_
    refine wq_iload_n rfl rfl ?_
    refine wn_ishl rfl (by omega) hsA ?_
    refine wn_ixor rfl ?_
    refine wq_putfield (h' := nW b pre (pts ^^^ (1 <<< (ac >>> 4 &&& 15))) edg nr suf) rfl (nW_o0 hb) rfl (nW_s0_1 hb) ?_
    refine wq_vret rfl rfl ?_
    exact k0 (fun q => c29 (by rcases q with q | q <;> rw [q] <;> first | exact Or.inl rfl | exact Or.inr rfl))
theorem r_Net_empty {d b : Nat} {pre suf : mH} {pts : Nat} {edg : Nat} {nr : Nat → Nat} {Q : Option Value → mH → Prop} (hb : pre.length = b) (hQ : Q none (nW b pre 0 0 (fz 0 nr 9) suf)) : Rn mprog (d + 2) n_Net_empty [.ref b] (nW b pre pts edg nr suf) Q := by
  refine Rn.in rfl rfl rfl ?_
  show WP _ _ _ _ 0 [.ref b] [] (nW b pre pts edg nr suf)
  refine wq_aload_n rfl rfl ?_
  refine wq_getfield (v := .ref (b + 1)) rfl (nW_o0 hb) rfl ?_
  refine wq_iconst (v := nI 0) rfl (by decide) ?_
  refine wq_stat (a := [.ref (b + 1), .int (nI 0)]) (rest := []) rfl rfl rfl rfl rfl ?_
  refine r_fill (g := nr) (nW_a1 hb) (by decide) ?_
  rw [nW_t1 hb]
  show WP _ _ _ _ 8 [.ref b] [] (nW b pre pts edg (fz 0 nr 9) suf)
  refine wq_aload_n rfl rfl ?_
  refine wq_iconst (v := nI 0) rfl (by decide) ?_
  refine wq_putfield (h' := nW b pre 0 edg (fz 0 nr 9) suf) rfl (nW_o0 hb) rfl (nW_s0_1 hb) ?_
  refine wq_aload_n rfl rfl ?_
  refine wq_iconst (v := nI 0) rfl (by decide) ?_
  refine wq_putfield (h' := nW b pre 0 0 (fz 0 nr 9) suf) rfl (nW_o0 hb) rfl (nW_s0_2 hb) ?_
  refine wq_vret rfl rfl ?_
  exact hQ
end
section
/-! Net: pieceOf, pieces, loops -/
theorem popc_ge {x p : Nat} : ∀ n, n ≤ p → popc (x ||| 1 <<< p) n = popc x n
  | 0, _ => rfl
  | n + 1, h => by
    unfold popc
    rw [popc_ge n (by omega), Nat.testBit_or, sh_bit]
    have e : decide (n = p) = false := decide_eq_false (by omega)
    rw [e, Bool.or_false]
theorem popc_or {x p : Nat} (hx : x.testBit p = false) : ∀ n, p < n → popc (x ||| 1 <<< p) n = popc x n + 1
  | 0, h => absurd h (Nat.not_lt_zero p)
  | n + 1, h => by
    unfold popc
    rw [Nat.testBit_or, sh_bit]
    by_cases e : n = p
    · subst e
      rw [popc_ge n (Nat.le_refl n), hx, decide_eq_true rfl]
      simp
    · rw [popc_or hx n (by omega), decide_eq_false e, Bool.or_false]
      omega
theorem popc_le (x : Nat) : ∀ n, popc x n ≤ n
  | 0 => Nat.le_refl 0
  | n + 1 => by
    unfold popc
    have := popc_le x n
    split <;> omega
theorem popc_full {x : Nat} : ∀ n, popc x n = n → ∀ i, i < n → x.testBit i = true
  | 0, _, i, hi => absurd hi (Nat.not_lt_zero i)
  | n + 1, h, i, hi => by
    unfold popc at h
    have h1 := popc_le x n
    by_cases q : x.testBit n = true
    · rw [if_pos q] at h
      by_cases e : i = n
      · rw [e]; exact q
      · exact popc_full n (by omega) i (by omega)
    · rw [if_neg q] at h
      omega
/-- a set that holds a point, is closed under edges, and lies in each such set -/
def IsR (nr : Nat → Nat) (p R : Nat) : Prop := R < 512 ∧ R.testBit p = true ∧ ClR nr R ∧ ∀ S, S.testBit p = true → ClR nr S → ∀ t, R.testBit t = true → S.testBit t = true
theorem low_bit {x : Nat} (hx : x < 512) (h0 : x ≠ 0) : x.testBit (low9 x) = true ∧ low9 x < 9 ∧ ∀ j, j < low9 x → x.testBit j = false := by
  obtain ⟨h1, h2, h3⟩ := low9_ok ⟨x, hx⟩ h0
  exact ⟨h1, h2, fun j hj => h3 ⟨j, Nat.lt_trans hj h2⟩ hj⟩
theorem bits0 {x : Nat} (h : ∀ t, x.testBit t = false) : x = 0 := Nat.eq_of_testBit_eq fun t => by rw [h t, Nat.zero_testBit]
def pInv (nr : Nat → Nat) (p0 i piece ahead : Nat) : Prop := piece < 512 ∧ ahead < 512 ∧ popc piece 9 = i ∧ (∀ t, piece.testBit t = true → ahead.testBit t = false) ∧ (piece.testBit p0 = true ∨ ahead.testBit p0 = true) ∧ (∀ S, S.testBit p0 = true → ClR nr S → ∀ t, (piece.testBit t = true ∨ ahead.testBit t = true) → S.testBit t = true) ∧ ∀ p, p < 9 → piece.testBit p = true → ∀ t, (nr p).testBit t = true → piece.testBit t = true ∨ ahead.testBit t = true
theorem pInv_end {nr : Nat → Nat} {p0 i piece : Nat} (h : pInv nr p0 i piece 0) : IsR nr p0 piece := by
  obtain ⟨h1, h2, h3, h4, h5, h6, h7⟩ := h
  have z : ∀ t, ¬ (0 : Nat).testBit t = true := fun t => by rw [Nat.zero_testBit]; decide
  exact ⟨h1, h5.elim id (fun q => absurd q (z _)), fun p hp q t ht => (h7 p hp q t ht).elim id (fun q => absurd q (z _)), fun S a1 a2 t ht => h6 S a1 a2 t (Or.inl ht)⟩
theorem pInv_9 {nr : Nat → Nat} {p0 piece ahead : Nat} (h : pInv nr p0 9 piece ahead) : ahead = 0 := by
  obtain ⟨h1, h2, h3, h4, -⟩ := h
  apply bits0
  intro t
  rcases Nat.lt_or_ge t 9 with q | q
  · exact h4 t (popc_full 9 h3 t q)
  · exact bit_lt (n := 9) h2 q
theorem pInv_s {nr : Nat → Nat} {p0 i piece ahead l : Nat} (hnr : ∀ p, p < 9 → nr p < 512) (h : pInv nr p0 i piece ahead) (hl : ahead.testBit l = true) (hl9 : l < 9) : pInv nr p0 (i + 1) (piece ||| 1 <<< l) (nd (ahead ||| nr l) (piece ||| 1 <<< l)) := by
  obtain ⟨h1, h2, h3, h4, h5, h6, h7⟩ := h
  have hpl : piece.testBit l = false := by
    cases q : piece.testBit l
    · rfl
    · rw [h4 l q] at hl; cases hl
  have bp : ∀ t, (piece ||| 1 <<< l).testBit t = true ↔ piece.testBit t = true ∨ t = l := fun t => by
    rw [Nat.testBit_or, sh_bit, Bool.or_eq_true, decide_eq_true_eq]
  have ba : ∀ t, (nd (ahead ||| nr l) (piece ||| 1 <<< l)).testBit t = true ↔ (ahead.testBit t = true ∨ (nr l).testBit t = true) ∧ ¬ (piece.testBit t = true ∨ t = l) := fun t => by
    rw [nd_bit, Bool.and_eq_true, Nat.testBit_or, Bool.or_eq_true, ← bp]
    cases (piece ||| 1 <<< l).testBit t <;> simp
  have un : ∀ t, ((piece ||| 1 <<< l).testBit t = true ∨ (nd (ahead ||| nr l) (piece ||| 1 <<< l)).testBit t = true) ↔ (piece.testBit t = true ∨ t = l ∨ ahead.testBit t = true ∨ (nr l).testBit t = true) := fun t => by
    rw [ba, bp]
    constructor
    · rintro ((q | q) | ⟨q | q, -⟩)
      · exact Or.inl q
      · exact Or.inr (Or.inl q)
      · exact Or.inr (Or.inr (Or.inl q))
      · exact Or.inr (Or.inr (Or.inr q))
    · intro q
      by_cases e : piece.testBit t = true ∨ t = l
      · exact Or.inl e
      · refine Or.inr ⟨?_, e⟩
        rcases q with q | q | q | q
        · exact absurd (Or.inl q) e
        · exact absurd (Or.inr q) e
        · exact Or.inl q
        · exact Or.inr q
  refine ⟨or_lt (n := 9) h1 (sh_lt hl9), nd_lt (n := 9) (or_lt h2 (hnr l hl9)), by rw [popc_or hpl 9 hl9, h3], ?_, ?_, ?_, ?_⟩
  · intro t q
    cases e : (nd (ahead ||| nr l) (piece ||| 1 <<< l)).testBit t
    · rfl
    · exact absurd ((bp t).mp q) ((ba t).mp e).2
  · rw [un]
    rcases h5 with q | q
    · exact Or.inl q
    · exact Or.inr (Or.inr (Or.inl q))
  · intro S a1 a2 t q
    rw [un] at q
    have hSl : S.testBit l = true := h6 S a1 a2 l (Or.inr hl)
    rcases q with q | q | q | q
    · exact h6 S a1 a2 t (Or.inl q)
    · rw [q]; exact hSl
    · exact h6 S a1 a2 t (Or.inr q)
    · exact a2 l hl9 hSl t q
  · intro p hp q t ht
    rw [un]
    rcases (bp p).mp q with q | q
    · rcases h7 p hp q t ht with r | r
      · exact Or.inl r
      · exact Or.inr (Or.inr (Or.inl r))
    · subst q
      exact Or.inr (Or.inr (Or.inr ht))
theorem l_Net_pieceOf {d b : Nat} {pre suf : mH} {pts : Nat} {edg : Nat} {nr : Nat → Nat} {Q : Option Value → mH → Prop} (hb : pre.length = b) {p0 : Nat} (hp0 : p0 < 9) (hnr : ∀ p, p < 9 → nr p < 512) (hQ : ∀ R, IsR nr p0 R → Q (some (.int (nI R))) (nW b pre pts edg nr suf)) : ∀ (n i piece ahead : Nat) (pv : Value), i + n = 9 → pInv nr p0 i piece ahead → WP (Rn mprog (d + 3)) k_Net_pieceOf (some .int) Q 19 [.ref b, .int (nI p0), .int (nI piece), .int (nI ahead), .int (nI i), pv] [] (nW b pre pts edg nr suf) := by
  intro n
  induction n with
  | zero =>
    intro i piece ahead pv hi hI
    have e : i = 9 := by omega
    subst e
    have ha := pInv_9 hI
    subst ha
    refine wq_iload rfl rfl ?_
    refine wq_bipush (v := nI 9) rfl (by decide) ?_
    refine wq_ic_ge rfl (fun _ => ?_) (fun c => absurd c (by decide))
    refine wq_iload_n rfl rfl ?_
    refine wq_iret rfl trivial ?_
    exact hQ piece (pInv_end hI)
  | succ n ih =>
    intro i piece ahead pv hi hI
    have hb1 := hI.1
    have hb2 := hI.2.1
    refine wq_iload rfl rfl ?_
    refine wq_bipush (v := nI 9) rfl (by decide) ?_
    refine wn_ic_ge rfl (by omega) (by omega) (fun c23 => absurd c23 (by omega)) (fun c23 => ?_)
    refine wq_iload_n rfl rfl ?_
    refine wn_if_eq rfl (by omega) (fun c27 => ?_) (fun c27 => ?_)
    · skip
      refine wq_iload_n rfl rfl ?_
      refine wq_iret rfl trivial ?_
      subst c27
      exact hQ piece (pInv_end hI)
    · skip
      refine wq_iload_n rfl rfl ?_
      refine wq_stat (a := [.int (nI ahead)]) (rest := []) rfl rfl rfl rfl rfl ?_
      obtain ⟨g1, g2, -⟩ := low_bit hb2 c27
      have g3 := Nat.lt_trans (sh_lt (n := 9) g2) (show 2 ^ 9 < 2 ^ 32 by decide)
      refine r_Z_lowestOf (by omega) c27 ?_
      show WP _ _ _ _ 34 [.ref b, .int (nI p0), .int (nI piece), .int (nI ahead), .int (nI i), pv] [.int (nI (low9 ahead))] (nW b pre pts edg nr suf)
      refine wq_istore (lv' := [.ref b, .int (nI p0), .int (nI piece), .int (nI ahead), .int (nI i), .int (nI (low9 ahead))]) rfl rfl rfl ?_
      refine wq_iload_n rfl rfl ?_
      refine wq_iconst (v := nI 1) rfl (by decide) ?_
      refine wq_iload rfl rfl ?_
      refine wn_ishl rfl (by omega) g3 ?_
      refine wn_ior rfl ?_
      refine wq_istore_n (lv' := [.ref b, .int (nI p0), .int (nI (piece ||| (1 <<< (low9 ahead)))), .int (nI ahead), .int (nI i), .int (nI (low9 ahead))]) rfl rfl rfl ?_
      refine wq_iload_n rfl rfl ?_
      refine wq_aload_n rfl rfl ?_
      refine wq_iload rfl rfl ?_
      refine wq_virt (b := b) (a := [.int (nI (low9 ahead))]) (rest := [.int (nI ahead)]) rfl rfl rfl rfl rfl (nW_o0 hb) ?_
      refine r_Net_nearOf hb (by omega) ?_
      show WP _ _ _ _ 50 [.ref b, .int (nI p0), .int (nI (piece ||| (1 <<< (low9 ahead)))), .int (nI ahead), .int (nI i), .int (nI (low9 ahead))] [.int (nI (nr (low9 ahead))), .int (nI ahead)] (nW b pre pts edg nr suf)
      refine wn_ior rfl ?_
      refine wq_iload_n rfl rfl ?_
      refine wq_iconst (v := (-1)) rfl (by decide) ?_
      refine wq_ixor (v := (nI (piece ||| (1 <<< (low9 ahead))) ^^^ (-1))) rfl rfl ?_
      refine wn_andn rfl ?_
      refine wq_istore_n (lv' := [.ref b, .int (nI p0), .int (nI (piece ||| (1 <<< (low9 ahead)))), .int (nI (nd (ahead ||| (nr (low9 ahead))) (piece ||| (1 <<< (low9 ahead))))), .int (nI i), .int (nI (low9 ahead))]) rfl rfl rfl ?_
      refine wn_inc (lv' := [.ref b, .int (nI p0), .int (nI (piece ||| (1 <<< (low9 ahead)))), .int (nI (nd (ahead ||| (nr (low9 ahead))) (piece ||| (1 <<< (low9 ahead))))), .int (nI (i + 1)), .int (nI (low9 ahead))]) rfl rfl rfl ?_
      refine wq_goto rfl ?_
      exact ih (i + 1) _ _ _ (by omega) (pInv_s hnr hI g1 g2)
theorem r_Net_pieceOf {d b : Nat} {pre suf : mH} {pts : Nat} {edg : Nat} {nr : Nat → Nat} {Q : Option Value → mH → Prop} (hb : pre.length = b) {p0 : Nat} (hp0 : p0 < 9) (hnr : ∀ p, p < 9 → nr p < 512) (hQ : ∀ R, IsR nr p0 R → Q (some (.int (nI R))) (nW b pre pts edg nr suf)) (hpt : pts < 512) (hin : pts.testBit p0 = true) : Rn mprog (d + 4) n_Net_pieceOf [.ref b, .int (nI p0)] (nW b pre pts edg nr suf) Q := by
  refine Rn.in rfl rfl rfl ?_
  show WP _ _ _ _ 0 [.ref b, .int (nI p0), .long 0, .long 0, .long 0, .long 0] [] (nW b pre pts edg nr suf)
  refine wq_aload_n rfl rfl ?_
  refine wq_iload_n rfl rfl ?_
  refine wq_virt (b := b) (a := [.int (nI p0)]) (rest := []) rfl rfl rfl rfl rfl (nW_o0 hb) ?_
  refine r_Net_has hb (by omega) (by omega) (fun c2 => ?_) (fun c2 => absurd c2 (by rw [hin]; decide))
  show WP _ _ _ _ 5 [.ref b, .int (nI p0), .long 0, .long 0, .long 0, .long 0] [.int (nI 1)] (nW b pre pts edg nr suf)
  refine wq_if_ne rfl (fun _ => ?_) (fun c => absurd c (by decide))
  refine wq_iconst (v := nI 0) rfl (by decide) ?_
  refine wq_istore_n (lv' := [.ref b, .int (nI p0), .int (nI 0), .long 0, .long 0, .long 0]) rfl rfl rfl ?_
  refine wq_iconst (v := nI 1) rfl (by decide) ?_
  refine wq_iload_n rfl rfl ?_
  refine wn_ishl rfl (by omega) (Nat.lt_trans (sh_lt (n := 9) hp0) (by decide)) ?_
  refine wq_istore_n (lv' := [.ref b, .int (nI p0), .int (nI 0), .int (nI (1 <<< p0)), .long 0, .long 0]) rfl rfl rfl ?_
  refine wq_iconst (v := nI 0) rfl (by decide) ?_
  refine wq_istore (lv' := [.ref b, .int (nI p0), .int (nI 0), .int (nI (1 <<< p0)), .int (nI 0), .long 0]) rfl rfl rfl ?_
  have hs9 := sh_lt (n := 9) hp0
  refine l_Net_pieceOf hb hp0 hnr hQ 9 0 0 (1 <<< p0) (.long 0) rfl ⟨by decide, hs9, by decide, ?_, Or.inr (by simp [sh_bit]), ?_, ?_⟩
  · intro t q
    rw [Nat.zero_testBit] at q
    cases q
  · intro S a1 a2 t q
    rcases q with q | q
    · rw [Nat.zero_testBit] at q
      cases q
    · rw [sh_bit, decide_eq_true_eq] at q
      rw [q]
      exact a1
  · intro p hp q
    rw [Nat.zero_testBit] at q
    cases q
end
section
/-! Kinship -/
def kR (b : Nat) (pre : mH) (rt : Nat → Nat) (sg : Nat → Nat) (wf : Nat → Nat) (ws : Nat → Nat) (suf : mH) : mH := pre ++ (.inr (1, [.ref (b + 1), .ref (b + 2), .ref (b + 3), .ref (b + 4)]) :: .inl (0, 9, .inl (nA rt)) :: .inl (0, 81, .inl (nA sg)) :: .inl (0, 9, .inl (nA wf)) :: .inl (0, 9, .inl (nA ws)) :: suf)
theorem kR_o0 {b : Nat} {pre suf : mH} {rt : Nat → Nat} {sg : Nat → Nat} {wf : Nat → Nat} {ws : Nat → Nat} (hb : pre.length = b) : (kR b pre rt sg wf ws suf)[b]? = some (.inr (1, [.ref (b + 1), .ref (b + 2), .ref (b + 3), .ref (b + 4)])) := ap_get0 hb
theorem kR_a1 {b : Nat} {pre suf : mH} {rt : Nat → Nat} {sg : Nat → Nat} {wf : Nat → Nat} {ws : Nat → Nat} (hb : pre.length = b) : (kR b pre rt sg wf ws suf)[b + 1]? = some (.inl (0, 9, .inl (nA rt))) := ap_get hb
theorem kR_t1 {b : Nat} {pre suf : mH} {rt : Nat → Nat} {sg : Nat → Nat} {wf : Nat → Nat} {ws : Nat → Nat} (hb : pre.length = b) {g : Nat → Nat} : (kR b pre rt sg wf ws suf).set (b + 1) (.inl (0, 9, .inl (nA g))) = kR b pre g sg wf ws suf := ap_set hb
theorem kR_a2 {b : Nat} {pre suf : mH} {rt : Nat → Nat} {sg : Nat → Nat} {wf : Nat → Nat} {ws : Nat → Nat} (hb : pre.length = b) : (kR b pre rt sg wf ws suf)[b + 2]? = some (.inl (0, 81, .inl (nA sg))) := ap_get hb
theorem kR_t2 {b : Nat} {pre suf : mH} {rt : Nat → Nat} {sg : Nat → Nat} {wf : Nat → Nat} {ws : Nat → Nat} (hb : pre.length = b) {g : Nat → Nat} : (kR b pre rt sg wf ws suf).set (b + 2) (.inl (0, 81, .inl (nA g))) = kR b pre rt g wf ws suf := ap_set hb
theorem kR_a3 {b : Nat} {pre suf : mH} {rt : Nat → Nat} {sg : Nat → Nat} {wf : Nat → Nat} {ws : Nat → Nat} (hb : pre.length = b) : (kR b pre rt sg wf ws suf)[b + 3]? = some (.inl (0, 9, .inl (nA wf))) := ap_get hb
theorem kR_t3 {b : Nat} {pre suf : mH} {rt : Nat → Nat} {sg : Nat → Nat} {wf : Nat → Nat} {ws : Nat → Nat} (hb : pre.length = b) {g : Nat → Nat} : (kR b pre rt sg wf ws suf).set (b + 3) (.inl (0, 9, .inl (nA g))) = kR b pre rt sg g ws suf := ap_set hb
theorem kR_a4 {b : Nat} {pre suf : mH} {rt : Nat → Nat} {sg : Nat → Nat} {wf : Nat → Nat} {ws : Nat → Nat} (hb : pre.length = b) : (kR b pre rt sg wf ws suf)[b + 4]? = some (.inl (0, 9, .inl (nA ws))) := ap_get hb
theorem kR_t4 {b : Nat} {pre suf : mH} {rt : Nat → Nat} {sg : Nat → Nat} {wf : Nat → Nat} {ws : Nat → Nat} (hb : pre.length = b) {g : Nat → Nat} : (kR b pre rt sg wf ws suf).set (b + 4) (.inl (0, 9, .inl (nA g))) = kR b pre rt sg wf g suf := ap_set hb
theorem sK_comm (f : Nat → Nat → Nat) (p q v : Nat) : sK f p q v = sK f q p v := by
  funext x y
  unfold sK
  have e : ((x = p ∧ y = q) ∨ (x = q ∧ y = p)) ↔ ((x = q ∧ y = p) ∨ (x = p ∧ y = q)) := Or.comm
  simp only [e]
def kE (sc : Nat → Nat → Nat) : Nat → Nat → Nat := fun x y => if x < 9 then 0 else sc x y
theorem kE_fz (sc : Nat → Nat → Nat) : fz 0 (K2 sc) 81 = K2 (kE sc) := by
  funext k
  unfold fz K2 kE
  by_cases h : k < 81
  · rw [if_pos h, if_pos (by omega)]
  · rw [if_neg h, if_neg (by omega)]
theorem r_Kin_empty {d b : Nat} {pre suf : mH} {rt : Nat → Nat} {sc : Nat → Nat → Nat} {wf : Nat → Nat} {ws : Nat → Nat} {Q : Option Value → mH → Prop} (hb : pre.length = b) (hQ : Q none (kW b pre (fz 0 rt 9) (kE sc) wf ws suf)) : Rn mprog (d + 2) n_Kin_empty [.ref b] (kW b pre rt sc wf ws suf) Q := by
  show Rn mprog (d + 2) n_Kin_empty [.ref b] (kR b pre rt (K2 sc) wf ws suf) Q
  refine Rn.in rfl rfl rfl ?_
  show WP _ _ _ _ 0 [.ref b] [] (kR b pre rt (K2 sc) wf ws suf)
  refine wq_aload_n rfl rfl ?_
  refine wq_getfield (v := .ref (b + 1)) rfl (kR_o0 hb) rfl ?_
  refine wq_iconst (v := nI 0) rfl (by decide) ?_
  refine wq_stat (a := [.ref (b + 1), .int (nI 0)]) (rest := []) rfl rfl rfl rfl rfl ?_
  refine r_fill (g := rt) (kR_a1 hb) (by decide) ?_
  rw [kR_t1 hb]
  show WP _ _ _ _ 8 [.ref b] [] (kR b pre (fz 0 rt 9) (K2 sc) wf ws suf)
  refine wq_aload_n rfl rfl ?_
  refine wq_getfield (v := .ref (b + 2)) rfl (kR_o0 hb) rfl ?_
  refine wq_iconst (v := nI 0) rfl (by decide) ?_
  refine wq_stat (a := [.ref (b + 2), .int (nI 0)]) (rest := []) rfl rfl rfl rfl rfl ?_
  refine r_fill (g := K2 sc) (kR_a2 hb) (by decide) ?_
  rw [kR_t2 hb]
  show WP _ _ _ _ 16 [.ref b] [] (kR b pre (fz 0 rt 9) (fz 0 (K2 sc) 81) wf ws suf)
  refine wq_vret rfl rfl ?_
  rw [kE_fz]
  exact hQ
theorem r_Kin_rootOf {d b : Nat} {pre suf : mH} {rt : Nat → Nat} {sc : Nat → Nat → Nat} {wf : Nat → Nat} {ws : Nat → Nat} {Q : Option Value → mH → Prop} (hb : pre.length = b) {p : Nat} (hp : p < 9) (hQ : Q (some (.int (nI (rt p)))) (kW b pre rt sc wf ws suf)) : Rn mprog (d + 2) n_Kin_rootOf [.ref b, .int (nI p)] (kW b pre rt sc wf ws suf) Q := by
  refine Rn.in rfl rfl rfl ?_
  show WP _ _ _ _ 0 [.ref b, .int (nI p)] [] (kW b pre rt sc wf ws suf)
  refine wq_iload_n rfl rfl ?_
  refine wq_stat (a := [.int (nI p)]) (rest := []) rfl rfl rfl rfl rfl ?_
  refine r_Z_isPt (by omega) ?_
  show WP _ _ _ _ 4 [.ref b, .int (nI p)] [.int (nI 1)] (kW b pre rt sc wf ws suf)
  refine wq_if_eq rfl (fun c => absurd c (by decide)) (fun _ => ?_)
  refine wq_aload_n rfl rfl ?_
  refine wq_getfield (v := .ref (b + 1)) rfl (kW_o0 hb) rfl ?_
  refine wq_iload_n rfl rfl ?_
  refine wn_iaload (g := rt) rfl (kW_a1 hb) (by omega) (by decide) ?_
  refine wq_goto rfl ?_
  refine wq_iret rfl trivial ?_
  exact hQ
theorem r_Kin_sinceOf {d b : Nat} {pre suf : mH} {rt : Nat → Nat} {sc : Nat → Nat → Nat} {wf : Nat → Nat} {ws : Nat → Nat} {Q : Option Value → mH → Prop} (hb : pre.length = b) {p q : Nat} (hp : p < 9) (hq : q < 9) (hQ : Q (some (.int (nI (sc p q)))) (kW b pre rt sc wf ws suf)) : Rn mprog (d + 2) n_Kin_sinceOf [.ref b, .int (nI p), .int (nI q)] (kW b pre rt sc wf ws suf) Q := by
  refine Rn.in rfl rfl rfl ?_
  show WP _ _ _ _ 0 [.ref b, .int (nI p), .int (nI q)] [] (kW b pre rt sc wf ws suf)
  refine wq_iload_n rfl rfl ?_
  refine wq_stat (a := [.int (nI p)]) (rest := []) rfl rfl rfl rfl rfl ?_
  refine r_Z_isPt (by omega) ?_
  show WP _ _ _ _ 4 [.ref b, .int (nI p), .int (nI q)] [.int (nI 1)] (kW b pre rt sc wf ws suf)
  refine wq_if_eq rfl (fun c => absurd c (by decide)) (fun _ => ?_)
  refine wq_iload_n rfl rfl ?_
  refine wq_stat (a := [.int (nI q)]) (rest := []) rfl rfl rfl rfl rfl ?_
  refine r_Z_isPt (by omega) ?_
  show WP _ _ _ _ 11 [.ref b, .int (nI p), .int (nI q)] [.int (nI 1)] (kW b pre rt sc wf ws suf)
  refine wq_if_eq rfl (fun c => absurd c (by decide)) (fun _ => ?_)
  refine wq_aload_n rfl rfl ?_
  refine wq_getfield (v := .ref (b + 2)) rfl (kW_o0 hb) rfl ?_
  refine wq_iload_n rfl rfl ?_
  refine wq_bipush (v := nI 9) rfl (by decide) ?_
  refine wn_imul rfl ?_
  refine wq_iload_n rfl rfl ?_
  refine wn_iadd rfl ?_
  refine wn_iaload (g := (K2 sc)) rfl (kW_a2 hb) (by omega) (by decide) ?_
  refine wq_goto rfl ?_
  refine wq_iret rfl trivial ?_
  have e : K2 sc (p * 9 + q) = sc p q := by rw [Nat.mul_comm]; exact K2_at hq
  rw [e]
  exact hQ
theorem r_Kin_come {d b : Nat} {pre suf : mH} {rt : Nat → Nat} {sc : Nat → Nat → Nat} {wf : Nat → Nat} {ws : Nat → Nat} {Q : Option Value → mH → Prop} (hb : pre.length = b) {p k : Nat} (hp : p < 9) (hQ : Q none (kW b pre (uN' rt p k) sc wf ws suf)) : Rn mprog (d + 2) n_Kin_come [.ref b, .int (nI p), .int (nI k)] (kW b pre rt sc wf ws suf) Q := by
  refine Rn.in rfl rfl rfl ?_
  show WP _ _ _ _ 0 [.ref b, .int (nI p), .int (nI k)] [] (kW b pre rt sc wf ws suf)
  refine wq_iload_n rfl rfl ?_
  refine wq_stat (a := [.int (nI p)]) (rest := []) rfl rfl rfl rfl rfl ?_
  refine r_Z_isPt (by omega) ?_
  show WP _ _ _ _ 4 [.ref b, .int (nI p), .int (nI k)] [.int (nI 1)] (kW b pre rt sc wf ws suf)
  refine wq_if_eq rfl (fun c => absurd c (by decide)) (fun _ => ?_)
  refine wq_aload_n rfl rfl ?_
  refine wq_getfield (v := .ref (b + 1)) rfl (kW_o0 hb) rfl ?_
  refine wq_iload_n rfl rfl ?_
  refine wq_iload_n rfl rfl ?_
  refine wn_iastore (g := rt) (h' := kW b pre (uN' rt p k) sc wf ws suf) rfl (kW_a1 hb) (by omega) (by decide) (kW_t1 hb) ?_
  refine wq_vret rfl rfl ?_
  exact hQ
theorem r_Kin_setSince {d b : Nat} {pre suf : mH} {rt : Nat → Nat} {sc : Nat → Nat → Nat} {wf : Nat → Nat} {ws : Nat → Nat} {Q : Option Value → mH → Prop} (hb : pre.length = b) {p q k : Nat} (hp : p < 9) (hq : q < 9) (hQ : Q none (kW b pre rt (sK sc p q k) wf ws suf)) : Rn mprog (d + 2) n_Kin_setSince [.ref b, .int (nI p), .int (nI q), .int (nI k)] (kW b pre rt sc wf ws suf) Q := by
  show Rn mprog (d + 2) n_Kin_setSince [.ref b, .int (nI p), .int (nI q), .int (nI k)] (kR b pre rt (K2 sc) wf ws suf) Q
  refine Rn.in rfl rfl rfl ?_
  show WP _ _ _ _ 0 [.ref b, .int (nI p), .int (nI q), .int (nI k)] [] (kR b pre rt (K2 sc) wf ws suf)
  refine wq_iload_n rfl rfl ?_
  refine wq_stat (a := [.int (nI p)]) (rest := []) rfl rfl rfl rfl rfl ?_
  refine r_Z_isPt (by omega) ?_
  show WP _ _ _ _ 4 [.ref b, .int (nI p), .int (nI q), .int (nI k)] [.int (nI 1)] (kR b pre rt (K2 sc) wf ws suf)
  refine wq_if_eq rfl (fun c => absurd c (by decide)) (fun _ => ?_)
  refine wq_iload_n rfl rfl ?_
  refine wq_stat (a := [.int (nI q)]) (rest := []) rfl rfl rfl rfl rfl ?_
  refine r_Z_isPt (by omega) ?_
  show WP _ _ _ _ 11 [.ref b, .int (nI p), .int (nI q), .int (nI k)] [.int (nI 1)] (kR b pre rt (K2 sc) wf ws suf)
  refine wq_if_eq rfl (fun c => absurd c (by decide)) (fun _ => ?_)
  refine wq_aload_n rfl rfl ?_
  refine wq_getfield (v := .ref (b + 2)) rfl (kR_o0 hb) rfl ?_
  refine wq_iload_n rfl rfl ?_
  refine wq_bipush (v := nI 9) rfl (by decide) ?_
  refine wn_imul rfl ?_
  refine wq_iload_n rfl rfl ?_
  refine wn_iadd rfl ?_
  refine wq_iload_n rfl rfl ?_
  refine wn_iastore (g := (K2 sc)) (h' := kR b pre rt (uN' ((K2 sc)) ((p * 9) + q) k) wf ws suf) rfl (kR_a2 hb) (by omega) (by decide) (kR_t2 hb) ?_
  refine wq_aload_n rfl rfl ?_
  refine wq_getfield (v := .ref (b + 2)) rfl (kR_o0 hb) rfl ?_
  refine wq_iload_n rfl rfl ?_
  refine wq_bipush (v := nI 9) rfl (by decide) ?_
  refine wn_imul rfl ?_
  refine wq_iload_n rfl rfl ?_
  refine wn_iadd rfl ?_
  refine wq_iload_n rfl rfl ?_
  refine wn_iastore (g := (uN' ((K2 sc)) ((p * 9) + q) k)) (h' := kR b pre rt (uN' ((uN' ((K2 sc)) ((p * 9) + q) k)) ((q * 9) + p) k) wf ws suf) rfl (kR_a2 hb) (by omega) (by decide) (kR_t2 hb) ?_
  refine wq_vret rfl rfl ?_
  have e := K2_set (f := sc) (v := k) hp hq
  rw [Nat.mul_comm p 9, Nat.mul_comm q 9, e]
  exact hQ
def ka (sc : Nat → Nat → Nat) (a oth k i : Nat) : Nat → Nat → Nat := fun x y => if (x = a ∧ y < i ∧ oth.testBit y = true) ∨ (y = a ∧ x < i ∧ oth.testBit x = true) then k else sc x y
theorem ka_0 (sc : Nat → Nat → Nat) (a oth k : Nat) : ka sc a oth k 0 = sc := by
  funext x y
  unfold ka
  rw [if_neg (by omega)]
theorem ka_t {sc : Nat → Nat → Nat} {a oth k i : Nat} (h : oth.testBit i = true) : sK (ka sc a oth k i) a i k = ka sc a oth k (i + 1) := by
  funext x y
  unfold sK ka
  by_cases h1 : (x = a ∧ y = i) ∨ (x = i ∧ y = a)
  · rw [if_pos h1, if_pos]
    rcases h1 with ⟨h1, h2⟩ | ⟨h1, h2⟩
    · exact Or.inl ⟨h1, by omega, by rw [h2]; exact h⟩
    · exact Or.inr ⟨h2, by omega, by rw [h1]; exact h⟩
  · rw [if_neg h1]
    have e : ((x = a ∧ y < i ∧ oth.testBit y = true) ∨ (y = a ∧ x < i ∧ oth.testBit x = true)) ↔ ((x = a ∧ y < i + 1 ∧ oth.testBit y = true) ∨ (y = a ∧ x < i + 1 ∧ oth.testBit x = true)) := by
      constructor
      · rintro (⟨q1, q2, q3⟩ | ⟨q1, q2, q3⟩)
        · exact Or.inl ⟨q1, by omega, q3⟩
        · exact Or.inr ⟨q1, by omega, q3⟩
      · rintro (⟨q1, q2, q3⟩ | ⟨q1, q2, q3⟩)
        · exact Or.inl ⟨q1, by omega, q3⟩
        · exact Or.inr ⟨q1, by omega, q3⟩
    simp only [e]
theorem ka_f {sc : Nat → Nat → Nat} {a oth k i : Nat} (h : oth.testBit i = false) : ka sc a oth k i = ka sc a oth k (i + 1) := by
  funext x y
  unfold ka
  have g : ∀ z, (z < i ∧ oth.testBit z = true) ↔ (z < i + 1 ∧ oth.testBit z = true) := by
    intro z
    constructor
    · exact fun q => ⟨by omega, q.2⟩
    · intro q
      refine ⟨?_, q.2⟩
      rcases Nat.lt_or_eq_of_le (Nat.le_of_lt_succ q.1) with r | r
      · exact r
      · have q2 := q.2
        rw [r, h] at q2
        cases q2
  simp only [g]
theorem l_Kin_ssa {d b : Nat} {pre suf : mH} {rt : Nat → Nat} {sc : Nat → Nat → Nat} {wf : Nat → Nat} {ws : Nat → Nat} {Q : Option Value → mH → Prop} (hb : pre.length = b) {p oth k : Nat} (hp : p < 9) (ho : oth < 512) (hQ : Q none (kW b pre rt (ka sc p oth k 9) wf ws suf)) : ∀ (n i : Nat), i + n = 9 → WP (Rn mprog (d + 1)) k_Kin_setSinceOfAll none Q 3 [.ref b, .int (nI p), .int (nI oth), .int (nI k), .int (nI i)] [] (kW b pre rt (ka sc p oth k i) wf ws suf) := by
  intro n
  induction n with
  | zero =>
    intro i hi
    have e : i = 9 := by omega
    subst e
    refine wq_iload rfl rfl ?_
    refine wq_bipush (v := nI 9) rfl (by decide) ?_
    refine wq_ic_ge rfl (fun _ => ?_) (fun c => absurd c (by decide))
    refine wq_vret rfl rfl ?_
    exact hQ
  | succ n ih =>
    intro i hi
    show WP _ _ _ _ 3 [.ref b, .int (nI p), .int (nI oth), .int (nI k), .int (nI i)] [] (kR b pre rt (K2 (ka sc p oth k i)) wf ws suf)
    refine wq_iload rfl rfl ?_
    refine wq_bipush (v := nI 9) rfl (by decide) ?_
    refine wn_ic_ge rfl (by omega) (by omega) (fun c7 => absurd c7 (by omega)) (fun c7 => ?_)
    refine wq_iload_n rfl rfl ?_
    refine wq_stat (a := [.int (nI p)]) (rest := []) rfl rfl rfl rfl rfl ?_
    refine r_Z_isPt (by omega) ?_
    show WP _ _ _ _ 14 [.ref b, .int (nI p), .int (nI oth), .int (nI k), .int (nI i)] [.int (nI 1)] (kR b pre rt (K2 (ka sc p oth k i)) wf ws suf)
    refine wq_if_eq rfl (fun c => absurd c (by decide)) (fun _ => ?_)
    refine wq_iload_n rfl rfl ?_
    refine wq_iload rfl rfl ?_
    refine wq_stat (a := [.int (nI oth), .int (nI i)]) (rest := []) rfl rfl rfl rfl rfl ?_
    refine r_Z_isIn (by omega) (by omega) (fun c20 => ?_) (fun c20 => ?_)
    · skip
      show WP _ _ _ _ 23 [.ref b, .int (nI p), .int (nI oth), .int (nI k), .int (nI i)] [.int (nI 1)] (kR b pre rt (K2 (ka sc p oth k i)) wf ws suf)
      refine wq_if_eq rfl (fun c => absurd c (by decide)) (fun _ => ?_)
      refine wq_aload_n rfl rfl ?_
      refine wq_getfield (v := .ref (b + 2)) rfl (kR_o0 hb) rfl ?_
      refine wq_iload_n rfl rfl ?_
      refine wq_bipush (v := nI 9) rfl (by decide) ?_
      refine wn_imul rfl ?_
      refine wq_iload rfl rfl ?_
      refine wn_iadd rfl ?_
      refine wq_iload_n rfl rfl ?_
      refine wn_iastore (g := (K2 (ka sc p oth k i))) (h' := kR b pre rt (uN' ((K2 (ka sc p oth k i))) ((p * 9) + i) k) wf ws suf) rfl (kR_a2 hb) (by omega) (by decide) (kR_t2 hb) ?_
      refine wq_aload_n rfl rfl ?_
      refine wq_getfield (v := .ref (b + 2)) rfl (kR_o0 hb) rfl ?_
      refine wq_iload rfl rfl ?_
      refine wq_bipush (v := nI 9) rfl (by decide) ?_
      refine wn_imul rfl ?_
      refine wq_iload_n rfl rfl ?_
      refine wn_iadd rfl ?_
      refine wq_iload_n rfl rfl ?_
      refine wn_iastore (g := (uN' ((K2 (ka sc p oth k i))) ((p * 9) + i) k)) (h' := kR b pre rt (uN' ((uN' ((K2 (ka sc p oth k i))) ((p * 9) + i) k)) ((i * 9) + p) k) wf ws suf) rfl (kR_a2 hb) (by omega) (by decide) (kR_t2 hb) ?_
      refine wn_inc (lv' := [.ref b, .int (nI p), .int (nI oth), .int (nI k), .int (nI (i + 1))]) rfl rfl rfl ?_
      refine wq_goto rfl ?_
      have e := K2_set (f := ka sc p oth k i) (v := k) hp (show i < 9 by omega)
      rw [Nat.mul_comm p 9, Nat.mul_comm i 9, e, ka_t c20]
      exact ih (i + 1) (by omega)
    · skip
      show WP _ _ _ _ 23 [.ref b, .int (nI p), .int (nI oth), .int (nI k), .int (nI i)] [.int (nI 0)] (kR b pre rt (K2 (ka sc p oth k i)) wf ws suf)
      refine wq_if_eq rfl (fun _ => ?_) (fun c => absurd c (by decide))
      refine wn_inc (lv' := [.ref b, .int (nI p), .int (nI oth), .int (nI k), .int (nI (i + 1))]) rfl rfl rfl ?_
      refine wq_goto rfl ?_
      rw [ka_f (i := i) c20]
      exact ih (i + 1) (by omega)
theorem r_Kin_ssa {d b : Nat} {pre suf : mH} {rt : Nat → Nat} {sc : Nat → Nat → Nat} {wf : Nat → Nat} {ws : Nat → Nat} {Q : Option Value → mH → Prop} (hb : pre.length = b) {p oth k : Nat} (hp : p < 9) (ho : oth < 512) (hQ : Q none (kW b pre rt (ka sc p oth k 9) wf ws suf)) : Rn mprog (d + 2) n_Kin_setSinceOfAll [.ref b, .int (nI p), .int (nI oth), .int (nI k)] (kW b pre rt sc wf ws suf) Q := by
  refine Rn.in rfl rfl rfl ?_
  show WP _ _ _ _ 0 [.ref b, .int (nI p), .int (nI oth), .int (nI k), .long 0] [] (kW b pre rt sc wf ws suf)
  refine wq_iconst (v := nI 0) rfl (by decide) ?_
  refine wq_istore (lv' := [.ref b, .int (nI p), .int (nI oth), .int (nI k), .int (nI 0)]) rfl rfl rfl ?_
  have q := l_Kin_ssa (d := d) hb hp ho hQ 9 0 rfl
  rw [ka_0] at q
  exact q
theorem l_Kin_go {d b : Nat} {pre suf : mH} {rt : Nat → Nat} {sc : Nat → Nat → Nat} {wf : Nat → Nat} {ws : Nat → Nat} {Q : Option Value → mH → Prop} (hb : pre.length = b) {p : Nat} (hp : p < 9) (hQ : Q none (kW b pre (uN' rt p 0) (kz sc p 9) wf ws suf)) : ∀ (n i : Nat), i + n = 9 → WP (Rn mprog (d + 2)) k_Kin_go none Q 2 [.ref b, .int (nI p), .int (nI i)] [] (kW b pre rt (kz sc p i) wf ws suf) := by
  intro n
  induction n with
  | zero =>
    intro i hi
    have e : i = 9 := by omega
    subst e
    refine wq_iload_n rfl rfl ?_
    refine wq_bipush (v := nI 9) rfl (by decide) ?_
    refine wq_ic_ge rfl (fun _ => ?_) (fun c => absurd c (by decide))
    refine wq_iload_n rfl rfl ?_
    refine wq_stat (a := [.int (nI p)]) (rest := []) rfl rfl rfl rfl rfl ?_
    refine r_Z_isPt (by omega) ?_
    show WP _ _ _ _ 25 [.ref b, .int (nI p), .int (nI 9)] [.int (nI 1)] (kW b pre rt (kz sc p 9) wf ws suf)
    refine wq_if_eq rfl (fun c => absurd c (by decide)) (fun _ => ?_)
    refine wq_aload_n rfl rfl ?_
    refine wq_getfield (v := .ref (b + 1)) rfl (kW_o0 hb) rfl ?_
    refine wq_iload_n rfl rfl ?_
    refine wq_iconst (v := nI 0) rfl (by decide) ?_
    refine wn_iastore (g := rt) (h' := kW b pre (uN' rt p 0) (kz sc p 9) wf ws suf) rfl (kW_a1 hb) (by omega) (by decide) (kW_t1 hb) ?_
    refine wq_vret rfl rfl ?_
    exact hQ
  | succ n ih =>
    intro i hi
    refine wq_iload_n rfl rfl ?_
    refine wq_bipush (v := nI 9) rfl (by decide) ?_
    refine wn_ic_ge rfl (by omega) (by omega) (fun c5 => absurd c5 (by omega)) (fun c5 => ?_)
    refine wq_aload_n rfl rfl ?_
    refine wq_iload_n rfl rfl ?_
    refine wq_iload_n rfl rfl ?_
    refine wq_iconst (v := nI 0) rfl (by decide) ?_
    refine wq_virt (b := b) (a := [.int (nI i), .int (nI p), .int (nI 0)]) (rest := []) rfl rfl rfl rfl rfl (kW_o0 hb) ?_
    refine r_Kin_setSince hb (by omega) (by omega) ?_
    show WP _ _ _ _ 15 [.ref b, .int (nI p), .int (nI i)] [] (kW b pre rt (sK (kz sc p i) i p 0) wf ws suf)
    refine wn_inc (lv' := [.ref b, .int (nI p), .int (nI (i + 1))]) rfl rfl rfl ?_
    refine wq_goto rfl ?_
    rw [sK_comm, kz_s]
    exact ih (i + 1) (by omega)
theorem r_Kin_go {d b : Nat} {pre suf : mH} {rt : Nat → Nat} {sc : Nat → Nat → Nat} {wf : Nat → Nat} {ws : Nat → Nat} {Q : Option Value → mH → Prop} (hb : pre.length = b) {p : Nat} (hp : p < 9) (hQ : Q none (kW b pre (uN' rt p 0) (kz sc p 9) wf ws suf)) : Rn mprog (d + 3) n_Kin_go [.ref b, .int (nI p)] (kW b pre rt sc wf ws suf) Q := by
  refine Rn.in rfl rfl rfl ?_
  show WP _ _ _ _ 0 [.ref b, .int (nI p), .long 0] [] (kW b pre rt sc wf ws suf)
  refine wq_iconst (v := nI 0) rfl (by decide) ?_
  refine wq_istore_n (lv' := [.ref b, .int (nI p), .int (nI 0)]) rfl rfl rfl ?_
  have q := l_Kin_go (d := d) hb hp hQ 9 0 rfl
  rw [kz_0] at q
  exact q
def kP (sc : Nat → Nat → Nat) (fi se k i : Nat) : Nat → Nat → Nat := fun x y => if (fi.testBit x = true ∧ se.testBit y = true ∧ x < i) ∨ (fi.testBit y = true ∧ se.testBit x = true ∧ y < i) then k else sc x y
theorem kP_0 (sc : Nat → Nat → Nat) (fi se k : Nat) : kP sc fi se k 0 = sc := by
  funext x y
  unfold kP
  rw [if_neg (by omega)]
theorem lt9 {x t : Nat} (hx : x < 512) (h : x.testBit t = true) : t < 9 := by
  rcases Nat.lt_or_ge t 9 with q | q
  · exact q
  · rw [bit_lt (n := 9) hx q] at h; cases h
theorem kP_t {sc : Nat → Nat → Nat} {fi se k i : Nat} (hs : se < 512) (h : fi.testBit i = true) : ka (kP sc fi se k i) i se k 9 = kP sc fi se k (i + 1) := by
  funext x y
  unfold ka kP
  by_cases h1 : (x = i ∧ y < 9 ∧ se.testBit y = true) ∨ (y = i ∧ x < 9 ∧ se.testBit x = true)
  · rw [if_pos h1, if_pos]
    rcases h1 with ⟨q1, q2, q3⟩ | ⟨q1, q2, q3⟩
    · exact Or.inl ⟨by rw [q1]; exact h, q3, by omega⟩
    · exact Or.inr ⟨by rw [q1]; exact h, q3, by omega⟩
  · rw [if_neg h1]
    have e : ((fi.testBit x = true ∧ se.testBit y = true ∧ x < i) ∨ (fi.testBit y = true ∧ se.testBit x = true ∧ y < i)) ↔ ((fi.testBit x = true ∧ se.testBit y = true ∧ x < i + 1) ∨ (fi.testBit y = true ∧ se.testBit x = true ∧ y < i + 1)) := by
      constructor
      · rintro (⟨q1, q2, q3⟩ | ⟨q1, q2, q3⟩)
        · exact Or.inl ⟨q1, q2, by omega⟩
        · exact Or.inr ⟨q1, q2, by omega⟩
      · rintro (⟨q1, q2, q3⟩ | ⟨q1, q2, q3⟩)
        · by_cases r : x = i
          · exact absurd (Or.inl ⟨r, lt9 hs q2, q2⟩) h1
          · exact Or.inl ⟨q1, q2, by omega⟩
        · by_cases r : y = i
          · exact absurd (Or.inr ⟨r, lt9 hs q2, q2⟩) h1
          · exact Or.inr ⟨q1, q2, by omega⟩
    simp only [e]
theorem kP_f {sc : Nat → Nat → Nat} {fi se k i : Nat} (h : fi.testBit i = false) : kP sc fi se k i = kP sc fi se k (i + 1) := by
  funext x y
  unfold kP
  have g : ∀ z w, (fi.testBit z = true ∧ se.testBit w = true ∧ z < i) ↔ (fi.testBit z = true ∧ se.testBit w = true ∧ z < i + 1) := fun z w => ⟨fun q => ⟨q.1, q.2.1, by omega⟩, fun q => ⟨q.1, q.2.1, by
    rcases Nat.lt_or_eq_of_le (Nat.le_of_lt_succ q.2.2) with r | r
    · exact r
    · have q1 := q.1; rw [r, h] at q1; cases q1⟩⟩
  simp only [g]
theorem l_Kin_part {d b : Nat} {pre suf : mH} {rt : Nat → Nat} {sc : Nat → Nat → Nat} {wf : Nat → Nat} {ws : Nat → Nat} {Q : Option Value → mH → Prop} (hb : pre.length = b) {fi se k : Nat} (hf : fi < 512) (hs : se < 512) (hQ : Q none (kW b pre rt (kP sc fi se k 9) wf ws suf)) : ∀ (n i : Nat), i + n = 9 → WP (Rn mprog (d + 2)) k_Kin_part none Q 3 [.ref b, .int (nI fi), .int (nI se), .int (nI k), .int (nI i)] [] (kW b pre rt (kP sc fi se k i) wf ws suf) := by
  intro n
  induction n with
  | zero =>
    intro i hi
    have e : i = 9 := by omega
    subst e
    refine wq_iload rfl rfl ?_
    refine wq_bipush (v := nI 9) rfl (by decide) ?_
    refine wq_ic_ge rfl (fun _ => ?_) (fun c => absurd c (by decide))
    refine wq_vret rfl rfl ?_
    exact hQ
  | succ n ih =>
    intro i hi
    refine wq_iload rfl rfl ?_
    refine wq_bipush (v := nI 9) rfl (by decide) ?_
    refine wn_ic_ge rfl (by omega) (by omega) (fun c7 => absurd c7 (by omega)) (fun c7 => ?_)
    refine wq_iload_n rfl rfl ?_
    refine wq_iload rfl rfl ?_
    refine wq_stat (a := [.int (nI fi), .int (nI i)]) (rest := []) rfl rfl rfl rfl rfl ?_
    refine r_Z_isIn (by omega) (by omega) (fun c13 => ?_) (fun c13 => ?_)
    · skip
      show WP _ _ _ _ 16 [.ref b, .int (nI fi), .int (nI se), .int (nI k), .int (nI i)] [.int (nI 1)] (kW b pre rt (kP sc fi se k i) wf ws suf)
      refine wq_if_eq rfl (fun c => absurd c (by decide)) (fun _ => ?_)
      refine wq_aload_n rfl rfl ?_
      refine wq_iload rfl rfl ?_
      refine wq_iload_n rfl rfl ?_
      refine wq_iload_n rfl rfl ?_
      refine wq_virt (b := b) (a := [.int (nI i), .int (nI se), .int (nI k)]) (rest := []) rfl rfl rfl rfl rfl (kW_o0 hb) ?_
      refine r_Kin_ssa hb (by omega) (by omega) ?_
      show WP _ _ _ _ 27 [.ref b, .int (nI fi), .int (nI se), .int (nI k), .int (nI i)] [] (kW b pre rt (ka (kP sc fi se k i) i se k 9) wf ws suf)
      refine wn_inc (lv' := [.ref b, .int (nI fi), .int (nI se), .int (nI k), .int (nI (i + 1))]) rfl rfl rfl ?_
      refine wq_goto rfl ?_
      rw [kP_t hs c13]
      exact ih (i + 1) (by omega)
    · skip
      show WP _ _ _ _ 16 [.ref b, .int (nI fi), .int (nI se), .int (nI k), .int (nI i)] [.int (nI 0)] (kW b pre rt (kP sc fi se k i) wf ws suf)
      refine wq_if_eq rfl (fun _ => ?_) (fun c => absurd c (by decide))
      refine wn_inc (lv' := [.ref b, .int (nI fi), .int (nI se), .int (nI k), .int (nI (i + 1))]) rfl rfl rfl ?_
      refine wq_goto rfl ?_
      rw [kP_f (i := i) c13]
      exact ih (i + 1) (by omega)
theorem r_Kin_part {d b : Nat} {pre suf : mH} {rt : Nat → Nat} {sc : Nat → Nat → Nat} {wf : Nat → Nat} {ws : Nat → Nat} {Q : Option Value → mH → Prop} (hb : pre.length = b) {fi se k : Nat} (hf : fi < 512) (hs : se < 512) (hQ : Q none (kW b pre rt (kP sc fi se k 9) wf ws suf)) : Rn mprog (d + 3) n_Kin_part [.ref b, .int (nI fi), .int (nI se), .int (nI k)] (kW b pre rt sc wf ws suf) Q := by
  refine Rn.in rfl rfl rfl ?_
  show WP _ _ _ _ 0 [.ref b, .int (nI fi), .int (nI se), .int (nI k), .long 0] [] (kW b pre rt sc wf ws suf)
  refine wq_iconst (v := nI 0) rfl (by decide) ?_
  refine wq_istore (lv' := [.ref b, .int (nI fi), .int (nI se), .int (nI k), .int (nI 0)]) rfl rfl rfl ?_
  have q := l_Kin_part (d := d) hb hf hs hQ 9 0 rfl
  rw [kP_0] at q
  exact q
def mxS (oth : Nat) (r : Nat → Nat) : Nat → Nat
  | 0 => 0
  | i + 1 => if oth.testBit i = true then max (mxS oth r i) (r i) else mxS oth r i
theorem mxS_le {oth m : Nat} {r : Nat → Nat} (h : ∀ q, q < 9 → r q ≤ m) : ∀ i, i ≤ 9 → mxS oth r i ≤ m
  | 0, _ => Nat.zero_le _
  | i + 1, hi => by
    have h1 := h i (by omega)
    have h2 := mxS_le (oth := oth) h i (by omega)
    unfold mxS
    split
    · omega
    · exact h2
theorem l_Kin_bog {d b : Nat} {pre suf : mH} {rt : Nat → Nat} {sc : Nat → Nat → Nat} {wf : Nat → Nat} {ws : Nat → Nat} {Q : Option Value → mH → Prop} (hb : pre.length = b) {p oth : Nat} (hp : p < 9) (ho : oth < 512) (hk : ∀ q, q < 9 → sc p q < 1000) (hQ : Q (some (.int (nI (if 0 < mxS oth (sc p) 9 then mxS oth (sc p) 9 else rt p)))) (kW b pre rt sc wf ws suf)) : ∀ (n i : Nat), i + n = 9 → WP (Rn mprog (d + 2)) k_Kin_beginOfGoing (some .int) Q 5 [.ref b, .int (nI p), .int (nI oth), .int (nI (mxS oth (sc p) i)), .int (nI i)] [] (kW b pre rt sc wf ws suf) := by
  intro n
  induction n with
  | zero =>
    intro i hi
    have e : i = 9 := by omega
    subst e
    have hm := mxS_le (oth := oth) (m := 999) (r := sc p) (fun q hq => by have := hk q hq; omega) 9 (Nat.le_refl 9)
    refine wq_iload rfl rfl ?_
    refine wq_bipush (v := nI 9) rfl (by decide) ?_
    refine wq_ic_ge rfl (fun _ => ?_) (fun c => absurd c (by decide))
    refine wq_iload_n rfl rfl ?_
    refine wn_if_le rfl (by omega) (fun c40 => ?_) (fun c40 => ?_)
    · skip
      refine wq_aload_n rfl rfl ?_
      refine wq_iload_n rfl rfl ?_
      refine wq_virt (b := b) (a := [.int (nI p)]) (rest := []) rfl rfl rfl rfl rfl (kW_o0 hb) ?_
      refine r_Kin_rootOf hb (by omega) ?_
      show WP _ _ _ _ 52 [.ref b, .int (nI p), .int (nI oth), .int (nI (mxS oth (sc p) 9)), .int (nI 9)] [.int (nI (rt p))] (kW b pre rt sc wf ws suf)
      refine wq_iret rfl trivial ?_
      rw [if_neg (by omega)] at hQ
      exact hQ
    · skip
      refine wq_iload_n rfl rfl ?_
      refine wq_goto rfl ?_
      refine wq_iret rfl trivial ?_
      rw [if_pos c40] at hQ
      exact hQ
  | succ n ih =>
    intro i hi
    have hm := mxS_le (oth := oth) (m := 999) (r := sc p) (fun q hq => by have := hk q hq; omega) i (by omega)
    have hki := hk i (by omega)
    refine wq_iload rfl rfl ?_
    refine wq_bipush (v := nI 9) rfl (by decide) ?_
    refine wn_ic_ge rfl (by omega) (by omega) (fun c9 => absurd c9 (by omega)) (fun c9 => ?_)
    refine wq_iload_n rfl rfl ?_
    refine wq_iload rfl rfl ?_
    refine wq_stat (a := [.int (nI oth), .int (nI i)]) (rest := []) rfl rfl rfl rfl rfl ?_
    refine r_Z_isIn (by omega) (by omega) (fun c15 => ?_) (fun c15 => ?_)
    · skip
      show WP _ _ _ _ 18 [.ref b, .int (nI p), .int (nI oth), .int (nI (mxS oth (sc p) i)), .int (nI i)] [.int (nI 1)] (kW b pre rt sc wf ws suf)
      refine wq_if_eq rfl (fun c => absurd c (by decide)) (fun _ => ?_)
      refine wq_iload_n rfl rfl ?_
      refine wq_aload_n rfl rfl ?_
      refine wq_iload_n rfl rfl ?_
      refine wq_iload rfl rfl ?_
      refine wq_virt (b := b) (a := [.int (nI p), .int (nI i)]) (rest := [.int (nI (mxS oth (sc p) i))]) rfl rfl rfl rfl rfl (kW_o0 hb) ?_
      refine r_Kin_sinceOf hb (by omega) (by omega) ?_
      show WP _ _ _ _ 29 [.ref b, .int (nI p), .int (nI oth), .int (nI (mxS oth (sc p) i)), .int (nI i)] [.int (nI (sc p i)), .int (nI (mxS oth (sc p) i))] (kW b pre rt sc wf ws suf)
      refine wn_max rfl rfl (by omega) (by omega) rfl ?_
      refine wq_istore_n (lv' := [.ref b, .int (nI p), .int (nI oth), .int (nI (max (mxS oth (sc p) i) (sc p i))), .int (nI i)]) rfl rfl rfl ?_
      refine wn_inc (lv' := [.ref b, .int (nI p), .int (nI oth), .int (nI (max (mxS oth (sc p) i) (sc p i))), .int (nI (i + 1))]) rfl rfl rfl ?_
      refine wq_goto rfl ?_
      have e : max (mxS oth (sc p) i) (sc p i) = mxS oth (sc p) (i + 1) := by
        show _ = if oth.testBit i = true then max (mxS oth (sc p) i) (sc p i) else mxS oth (sc p) i
        rw [c15]
        rfl
      rw [e]
      exact ih (i + 1) (by omega)
    · skip
      show WP _ _ _ _ 18 [.ref b, .int (nI p), .int (nI oth), .int (nI (mxS oth (sc p) i)), .int (nI i)] [.int (nI 0)] (kW b pre rt sc wf ws suf)
      refine wq_if_eq rfl (fun _ => ?_) (fun c => absurd c (by decide))
      refine wn_inc (lv' := [.ref b, .int (nI p), .int (nI oth), .int (nI (mxS oth (sc p) i)), .int (nI (i + 1))]) rfl rfl rfl ?_
      refine wq_goto rfl ?_
      have e : mxS oth (sc p) i = mxS oth (sc p) (i + 1) := by
        show _ = if oth.testBit i = true then max (mxS oth (sc p) i) (sc p i) else mxS oth (sc p) i
        rw [c15]
        rfl
      rw [e]
      exact ih (i + 1) (by omega)
theorem r_Kin_bog {d b : Nat} {pre suf : mH} {rt : Nat → Nat} {sc : Nat → Nat → Nat} {wf : Nat → Nat} {ws : Nat → Nat} {Q : Option Value → mH → Prop} (hb : pre.length = b) {p oth : Nat} (hp : p < 9) (ho : oth < 512) (hk : ∀ q, q < 9 → sc p q < 1000) (hQ : Q (some (.int (nI (if 0 < mxS oth (sc p) 9 then mxS oth (sc p) 9 else rt p)))) (kW b pre rt sc wf ws suf)) : Rn mprog (d + 3) n_Kin_beginOfGoing [.ref b, .int (nI p), .int (nI oth)] (kW b pre rt sc wf ws suf) Q := by
  refine Rn.in rfl rfl rfl ?_
  show WP _ _ _ _ 0 [.ref b, .int (nI p), .int (nI oth), .long 0, .long 0] [] (kW b pre rt sc wf ws suf)
  refine wq_iconst (v := nI 0) rfl (by decide) ?_
  refine wq_istore_n (lv' := [.ref b, .int (nI p), .int (nI oth), .int (nI 0), .long 0]) rfl rfl rfl ?_
  refine wq_iconst (v := nI 0) rfl (by decide) ?_
  refine wq_istore (lv' := [.ref b, .int (nI p), .int (nI oth), .int (nI 0), .int (nI 0)]) rfl rfl rfl ?_
  exact l_Kin_bog hb hp ho hk hQ 9 0 rfl
theorem r_Kin_boj {d b : Nat} {pre suf : mH} {rt : Nat → Nat} {sc : Nat → Nat → Nat} {wf : Nat → Nat} {ws : Nat → Nat} {Q : Option Value → mH → Prop} (hb : pre.length = b) {p q : Nat} (hp : p < 9) (hq : q < 9) (hk : sc p q < 1000) (h1 : rt p < 1000) (h2 : rt q < 1000) (hQ : Q (some (.int (nI (if 0 < sc p q then sc p q else max (rt p) (rt q))))) (kW b pre rt sc wf ws suf)) : Rn mprog (d + 3) n_Kin_beginOfJoining [.ref b, .int (nI p), .int (nI q)] (kW b pre rt sc wf ws suf) Q := by
  refine Rn.in rfl rfl rfl ?_
  show WP _ _ _ _ 0 [.ref b, .int (nI p), .int (nI q), .long 0] [] (kW b pre rt sc wf ws suf)
  refine wq_aload_n rfl rfl ?_
  refine wq_iload_n rfl rfl ?_
  refine wq_iload_n rfl rfl ?_
  refine wq_virt (b := b) (a := [.int (nI p), .int (nI q)]) (rest := []) rfl rfl rfl rfl rfl (kW_o0 hb) ?_
  refine r_Kin_sinceOf hb (by omega) (by omega) ?_
  show WP _ _ _ _ 6 [.ref b, .int (nI p), .int (nI q), .long 0] [.int (nI (sc p q))] (kW b pre rt sc wf ws suf)
  refine wq_istore_n (lv' := [.ref b, .int (nI p), .int (nI q), .int (nI (sc p q))]) rfl rfl rfl ?_
  refine wq_iload_n rfl rfl ?_
  refine wn_if_le rfl (by omega) (fun c8 => ?_) (fun c8 => ?_)
  · skip
    refine wq_aload_n rfl rfl ?_
    refine wq_iload_n rfl rfl ?_
    refine wq_virt (b := b) (a := [.int (nI p)]) (rest := []) rfl rfl rfl rfl rfl (kW_o0 hb) ?_
    refine r_Kin_rootOf hb (by omega) ?_
    show WP _ _ _ _ 20 [.ref b, .int (nI p), .int (nI q), .int (nI (sc p q))] [.int (nI (rt p))] (kW b pre rt sc wf ws suf)
    refine wq_aload_n rfl rfl ?_
    refine wq_iload_n rfl rfl ?_
    refine wq_virt (b := b) (a := [.int (nI q)]) (rest := [.int (nI (rt p))]) rfl rfl rfl rfl rfl (kW_o0 hb) ?_
    refine r_Kin_rootOf hb (by omega) ?_
    show WP _ _ _ _ 25 [.ref b, .int (nI p), .int (nI q), .int (nI (sc p q))] [.int (nI (rt q)), .int (nI (rt p))] (kW b pre rt sc wf ws suf)
    refine wn_max rfl rfl (by omega) (by omega) rfl ?_
    refine wq_iret rfl trivial ?_
    rw [if_neg (by omega)] at hQ
    exact hQ
  · skip
    refine wq_iload_n rfl rfl ?_
    refine wq_goto rfl ?_
    refine wq_iret rfl trivial ?_
    rw [if_pos c8] at hQ
    exact hQ
end
section
/-! Kinship: join -/
theorem pw_f {i : Nat} {c : Nat → Bool} {v g : Nat → Nat} (h : c i = false) : pw i c v g = pw (i + 1) c v g := by
  funext q
  unfold pw
  have e : (q < i ∧ c q = true) ↔ (q < i + 1 ∧ c q = true) := by
    constructor
    · exact fun z => ⟨by omega, z.2⟩
    · intro z
      refine ⟨?_, z.2⟩
      rcases Nat.lt_or_eq_of_le (Nat.le_of_lt_succ z.1) with r | r
      · exact r
      · have z2 := z.2
        rw [r, h] at z2
        cases z2
  simp only [e]
theorem pw_in {i q : Nat} {c : Nat → Bool} {v g : Nat → Nat} (h : q < i) (hc : c q = true) : pw i c v g q = v q := by
  unfold pw
  rw [if_pos ⟨h, hc⟩]
def lR (J : Nat) (wf ws : Nat → Nat) (p : Nat) : Bool := J.testBit p || Nat.blt 0 (wf p) || Nat.blt 0 (ws p)
theorem lR_iff {J p : Nat} {wf ws : Nat → Nat} : lR J wf ws p = true ↔ J.testBit p = true ∨ 0 < wf p ∨ 0 < ws p := by
  unfold lR
  rw [Bool.or_eq_true, Bool.or_eq_true, nblt, nblt, or_assoc]
theorem lR_f {J p : Nat} {wf ws : Nat → Nat} (h : ¬ (J.testBit p = true ∨ 0 < wf p ∨ 0 < ws p)) : lR J wf ws p = false := by
  cases e : lR J wf ws p
  · rfl
  · exact absurd (lR_iff.mp e) h
theorem l_Kin_low {d b : Nat} {pre suf : mH} {rt : Nat → Nat} {sc : Nat → Nat → Nat} {wf : Nat → Nat} {ws : Nat → Nat} {Q : Option Value → mH → Prop} (hb : pre.length = b) {ro J : Nat} (hJ : J < 512) (hw : ∀ p, p < 9 → wf p < 1000 ∧ ws p < 1000) (hQ : Q none (kW b pre (pw 9 (lR J wf ws) (fun _ => ro) rt) sc wf ws suf)) : ∀ (n i : Nat), i + n = 9 → WP (Rn mprog (d + 1)) k_Kin_lowerRoots none Q 2 [.ref b, .int (nI ro), .int (nI J), .int (nI i)] [] (kW b pre (pw i (lR J wf ws) (fun _ => ro) rt) sc wf ws suf) := by
  intro n
  induction n with
  | zero =>
    intro i hi
    have e : i = 9 := by omega
    subst e
    refine wq_iload_n rfl rfl ?_
    refine wq_bipush (v := nI 9) rfl (by decide) ?_
    refine wq_ic_ge rfl (fun _ => ?_) (fun c => absurd c (by decide))
    refine wq_vret rfl rfl ?_
    exact hQ
  | succ n ih =>
    intro i hi
    have hwi := hw i (by omega)
    refine wq_iload_n rfl rfl ?_
    refine wq_bipush (v := nI 9) rfl (by decide) ?_
    refine wn_ic_ge rfl (by omega) (by omega) (fun c5 => absurd c5 (by omega)) (fun c5 => ?_)
    refine wq_iload_n rfl rfl ?_
    refine wq_iload_n rfl rfl ?_
    refine wq_stat (a := [.int (nI J), .int (nI i)]) (rest := []) rfl rfl rfl rfl rfl ?_
    refine r_Z_isIn (by omega) (by omega) (fun c10 => ?_) (fun c10 => ?_)
    · skip
      show WP _ _ _ _ 13 [.ref b, .int (nI ro), .int (nI J), .int (nI i)] [.int (nI 1)] (kW b pre (pw i (lR J wf ws) (fun _ => ro) rt) sc wf ws suf)
      refine wq_if_ne rfl (fun _ => ?_) (fun c => absurd c (by decide))
      refine wq_aload_n rfl rfl ?_
      refine wq_getfield (v := .ref (b + 1)) rfl (kW_o0 hb) rfl ?_
      refine wq_iload_n rfl rfl ?_
      refine wq_iload_n rfl rfl ?_
      refine wn_iastore (g := (pw i (lR J wf ws) (fun _ => ro) rt)) (h' := kW b pre (uN' ((pw i (lR J wf ws) (fun _ => ro) rt)) i ro) sc wf ws suf) rfl (kW_a1 hb) (by omega) (by decide) (kW_t1 hb) ?_
      refine wn_inc (lv' := [.ref b, .int (nI ro), .int (nI J), .int (nI (i + 1))]) rfl rfl rfl ?_
      refine wq_goto rfl ?_
      have hR : lR J wf ws i = true := lR_iff.mpr (Or.inl c10)
      rw [pw_s (by rw [hR]; rfl)]
      exact ih (i + 1) (by omega)
    · skip
      show WP _ _ _ _ 13 [.ref b, .int (nI ro), .int (nI J), .int (nI i)] [.int (nI 0)] (kW b pre (pw i (lR J wf ws) (fun _ => ro) rt) sc wf ws suf)
      refine wq_if_ne rfl (fun c => absurd c (by decide)) (fun _ => ?_)
      refine wq_aload_n rfl rfl ?_
      refine wq_getfield (v := .ref (b + 3)) rfl (kW_o0 hb) rfl ?_
      refine wq_iload_n rfl rfl ?_
      refine wn_iaload (g := wf) rfl (kW_a3 hb) (by omega) (by decide) ?_
      refine wn_if_gt rfl (by omega) (fun c22 => ?_) (fun c22 => ?_)
      · skip
        refine wq_aload_n rfl rfl ?_
        refine wq_getfield (v := .ref (b + 1)) rfl (kW_o0 hb) rfl ?_
        refine wq_iload_n rfl rfl ?_
        refine wq_iload_n rfl rfl ?_
        refine wn_iastore (g := (pw i (lR J wf ws) (fun _ => ro) rt)) (h' := kW b pre (uN' ((pw i (lR J wf ws) (fun _ => ro) rt)) i ro) sc wf ws suf) rfl (kW_a1 hb) (by omega) (by decide) (kW_t1 hb) ?_
        refine wn_inc (lv' := [.ref b, .int (nI ro), .int (nI J), .int (nI (i + 1))]) rfl rfl rfl ?_
        refine wq_goto rfl ?_
        have hR : lR J wf ws i = true := lR_iff.mpr (Or.inr (Or.inl c22))
        rw [pw_s (by rw [hR]; rfl)]
        exact ih (i + 1) (by omega)
      · skip
        refine wq_aload_n rfl rfl ?_
        refine wq_getfield (v := .ref (b + 4)) rfl (kW_o0 hb) rfl ?_
        refine wq_iload_n rfl rfl ?_
        refine wn_iaload (g := ws) rfl (kW_a4 hb) (by omega) (by decide) ?_
        refine wn_if_le rfl (by omega) (fun c31 => ?_) (fun c31 => ?_)
        · skip
          refine wn_inc (lv' := [.ref b, .int (nI ro), .int (nI J), .int (nI (i + 1))]) rfl rfl rfl ?_
          refine wq_goto rfl ?_
          have hR : lR J wf ws i = false := lR_f (by rw [c10]; simp [c22, c31])
          rw [pw_f (i := i) hR]
          exact ih (i + 1) (by omega)
        · skip
          refine wq_aload_n rfl rfl ?_
          refine wq_getfield (v := .ref (b + 1)) rfl (kW_o0 hb) rfl ?_
          refine wq_iload_n rfl rfl ?_
          refine wq_iload_n rfl rfl ?_
          refine wn_iastore (g := (pw i (lR J wf ws) (fun _ => ro) rt)) (h' := kW b pre (uN' ((pw i (lR J wf ws) (fun _ => ro) rt)) i ro) sc wf ws suf) rfl (kW_a1 hb) (by omega) (by decide) (kW_t1 hb) ?_
          refine wn_inc (lv' := [.ref b, .int (nI ro), .int (nI J), .int (nI (i + 1))]) rfl rfl rfl ?_
          refine wq_goto rfl ?_
          have hR : lR J wf ws i = true := lR_iff.mpr (Or.inr (Or.inr c31))
          rw [pw_s (by rw [hR]; rfl)]
          exact ih (i + 1) (by omega)
theorem r_Kin_low {d b : Nat} {pre suf : mH} {rt : Nat → Nat} {sc : Nat → Nat → Nat} {wf : Nat → Nat} {ws : Nat → Nat} {Q : Option Value → mH → Prop} (hb : pre.length = b) {ro J : Nat} (hJ : J < 512) (hw : ∀ p, p < 9 → wf p < 1000 ∧ ws p < 1000) (hQ : Q none (kW b pre (pw 9 (lR J wf ws) (fun _ => ro) rt) sc wf ws suf)) : Rn mprog (d + 2) n_Kin_lowerRoots [.ref b, .int (nI ro), .int (nI J)] (kW b pre rt sc wf ws suf) Q := by
  refine Rn.in rfl rfl rfl ?_
  show WP _ _ _ _ 0 [.ref b, .int (nI ro), .int (nI J), .long 0] [] (kW b pre rt sc wf ws suf)
  refine wq_iconst (v := nI 0) rfl (by decide) ?_
  refine wq_istore_n (lv' := [.ref b, .int (nI ro), .int (nI J), .int (nI 0)]) rfl rfl rfl ?_
  have q := l_Kin_low (d := d) hb hJ hw hQ 9 0 rfl
  rw [pw_0] at q
  exact q
def wv (J : Nat) (r : Nat → Nat) : Nat → Nat := fun p => if J.testBit p = true then 0 else r p
theorem l_Kin_join1 {d b : Nat} {pre suf : mH} {rt : Nat → Nat} {sc : Nat → Nat → Nat} {wf : Nat → Nat} {ws : Nat → Nat} {Q : Option Value → mH → Prop} (hb : pre.length = b) {a bb J met : Nat} (ha : a < 9) (hbb : bb < 9) (hJ : J < 512) (k : ∀ jv : Value, WP (Rn mprog (d + 2)) k_Kin_join none Q 78 [.ref b, .int (nI a), .int (nI bb), .int (nI J), .int (nI met), .int (nI 9), jv] [] (kW b pre rt sc (pw 9 (fun _ => true) (wv J (sc a)) wf) (pw 9 (fun _ => true) (wv J (sc bb)) ws) suf)) : ∀ (n i : Nat), i + n = 9 → ∀ jv : Value, WP (Rn mprog (d + 2)) k_Kin_join none Q 11 [.ref b, .int (nI a), .int (nI bb), .int (nI J), .int (nI met), .int (nI i), jv] [] (kW b pre rt sc (pw i (fun _ => true) (wv J (sc a)) wf) (pw i (fun _ => true) (wv J (sc bb)) ws) suf) := by
  intro n
  induction n with
  | zero =>
    intro i hi jv
    have e : i = 9 := by omega
    subst e
    refine wq_iload rfl rfl ?_
    refine wq_bipush (v := nI 9) rfl (by decide) ?_
    refine wq_ic_ge rfl (fun _ => ?_) (fun c => absurd c (by decide))
    exact k _
  | succ n ih =>
    intro i hi jv
    refine wq_iload rfl rfl ?_
    refine wq_bipush (v := nI 9) rfl (by decide) ?_
    refine wn_ic_ge rfl (by omega) (by omega) (fun c15 => absurd c15 (by omega)) (fun c15 => ?_)
    refine wq_aload_n rfl rfl ?_
    refine wq_getfield (v := .ref (b + 3)) rfl (kW_o0 hb) rfl ?_
    refine wq_iload rfl rfl ?_
    refine wq_iload_n rfl rfl ?_
    refine wq_iload rfl rfl ?_
    refine wq_stat (a := [.int (nI J), .int (nI i)]) (rest := [.int (nI i), .ref (b + 3)]) rfl rfl rfl rfl rfl ?_
    refine r_Z_isIn (by omega) (by omega) (fun c27 => ?_) (fun c27 => ?_)
    · skip
      show WP _ _ _ _ 30 [.ref b, .int (nI a), .int (nI bb), .int (nI J), .int (nI met), .int (nI i), jv] [.int (nI 1), .int (nI i), .ref (b + 3)] (kW b pre rt sc (pw i (fun _ => true) (wv J (sc a)) wf) (pw i (fun _ => true) (wv J (sc bb)) ws) suf)
      refine wq_if_eq rfl (fun c => absurd c (by decide)) (fun _ => ?_)
      refine wq_iconst (v := nI 0) rfl (by decide) ?_
      refine wq_goto rfl ?_
      refine wn_iastore (g := (pw i (fun _ => true) (wv J (sc a)) wf)) (h' := kW b pre rt sc (uN' ((pw i (fun _ => true) (wv J (sc a)) wf)) i 0) (pw i (fun _ => true) (wv J (sc bb)) ws) suf) rfl (kW_a3 hb) (by omega) (by decide) (kW_t3 hb) ?_
      refine wq_aload_n rfl rfl ?_
      refine wq_getfield (v := .ref (b + 4)) rfl (kW_o0 hb) rfl ?_
      refine wq_iload rfl rfl ?_
      refine wq_iload_n rfl rfl ?_
      refine wq_iload rfl rfl ?_
      refine wq_stat (a := [.int (nI J), .int (nI i)]) (rest := [.int (nI i), .ref (b + 4)]) rfl rfl rfl rfl rfl ?_
      refine r_Z_isIn (by omega) (by omega) (fun c54 => ?_) (fun c54 => absurd c54 (by rw [c27]; decide))
      show WP _ _ _ _ 57 [.ref b, .int (nI a), .int (nI bb), .int (nI J), .int (nI met), .int (nI i), jv] [.int (nI 1), .int (nI i), .ref (b + 4)] (kW b pre rt sc (uN' ((pw i (fun _ => true) (wv J (sc a)) wf)) i 0) (pw i (fun _ => true) (wv J (sc bb)) ws) suf)
      refine wq_if_eq rfl (fun c => absurd c (by decide)) (fun _ => ?_)
      refine wq_iconst (v := nI 0) rfl (by decide) ?_
      refine wq_goto rfl ?_
      refine wn_iastore (g := (pw i (fun _ => true) (wv J (sc bb)) ws)) (h' := kW b pre rt sc (uN' ((pw i (fun _ => true) (wv J (sc a)) wf)) i 0) (uN' ((pw i (fun _ => true) (wv J (sc bb)) ws)) i 0) suf) rfl (kW_a4 hb) (by omega) (by decide) (kW_t4 hb) ?_
      refine wn_inc (lv' := [.ref b, .int (nI a), .int (nI bb), .int (nI J), .int (nI met), .int (nI (i + 1)), jv]) rfl rfl rfl ?_
      refine wq_goto rfl ?_
      rw [pw_s (v := wv J (sc a)) (by unfold wv; rw [c27]; rfl), pw_s (v := wv J (sc bb)) (by unfold wv; rw [c27]; rfl)]
      exact ih (i + 1) (by omega) jv
    · skip
      show WP _ _ _ _ 30 [.ref b, .int (nI a), .int (nI bb), .int (nI J), .int (nI met), .int (nI i), jv] [.int (nI 0), .int (nI i), .ref (b + 3)] (kW b pre rt sc (pw i (fun _ => true) (wv J (sc a)) wf) (pw i (fun _ => true) (wv J (sc bb)) ws) suf)
      refine wq_if_eq rfl (fun _ => ?_) (fun c => absurd c (by decide))
      refine wq_aload_n rfl rfl ?_
      refine wq_iload_n rfl rfl ?_
      refine wq_iload rfl rfl ?_
      refine wq_virt (b := b) (a := [.int (nI a), .int (nI i)]) (rest := [.int (nI i), .ref (b + 3)]) rfl rfl rfl rfl rfl (kW_o0 hb) ?_
      refine r_Kin_sinceOf hb (by omega) (by omega) ?_
      show WP _ _ _ _ 44 [.ref b, .int (nI a), .int (nI bb), .int (nI J), .int (nI met), .int (nI i), jv] [.int (nI (sc a i)), .int (nI i), .ref (b + 3)] (kW b pre rt sc (pw i (fun _ => true) (wv J (sc a)) wf) (pw i (fun _ => true) (wv J (sc bb)) ws) suf)
      refine wn_iastore (g := (pw i (fun _ => true) (wv J (sc a)) wf)) (h' := kW b pre rt sc (uN' ((pw i (fun _ => true) (wv J (sc a)) wf)) i (sc a i)) (pw i (fun _ => true) (wv J (sc bb)) ws) suf) rfl (kW_a3 hb) (by omega) (by decide) (kW_t3 hb) ?_
      refine wq_aload_n rfl rfl ?_
      refine wq_getfield (v := .ref (b + 4)) rfl (kW_o0 hb) rfl ?_
      refine wq_iload rfl rfl ?_
      refine wq_iload_n rfl rfl ?_
      refine wq_iload rfl rfl ?_
      refine wq_stat (a := [.int (nI J), .int (nI i)]) (rest := [.int (nI i), .ref (b + 4)]) rfl rfl rfl rfl rfl ?_
      refine r_Z_isIn (by omega) (by omega) (fun c54 => absurd c54 (by rw [c27]; decide)) (fun c54 => ?_)
      show WP _ _ _ _ 57 [.ref b, .int (nI a), .int (nI bb), .int (nI J), .int (nI met), .int (nI i), jv] [.int (nI 0), .int (nI i), .ref (b + 4)] (kW b pre rt sc (uN' ((pw i (fun _ => true) (wv J (sc a)) wf)) i (sc a i)) (pw i (fun _ => true) (wv J (sc bb)) ws) suf)
      refine wq_if_eq rfl (fun _ => ?_) (fun c => absurd c (by decide))
      refine wq_aload_n rfl rfl ?_
      refine wq_iload_n rfl rfl ?_
      refine wq_iload rfl rfl ?_
      refine wq_virt (b := b) (a := [.int (nI bb), .int (nI i)]) (rest := [.int (nI i), .ref (b + 4)]) rfl rfl rfl rfl rfl (kW_o0 hb) ?_
      refine r_Kin_sinceOf hb (by omega) (by omega) ?_
      show WP _ _ _ _ 71 [.ref b, .int (nI a), .int (nI bb), .int (nI J), .int (nI met), .int (nI i), jv] [.int (nI (sc bb i)), .int (nI i), .ref (b + 4)] (kW b pre rt sc (uN' ((pw i (fun _ => true) (wv J (sc a)) wf)) i (sc a i)) (pw i (fun _ => true) (wv J (sc bb)) ws) suf)
      refine wn_iastore (g := (pw i (fun _ => true) (wv J (sc bb)) ws)) (h' := kW b pre rt sc (uN' ((pw i (fun _ => true) (wv J (sc a)) wf)) i (sc a i)) (uN' ((pw i (fun _ => true) (wv J (sc bb)) ws)) i (sc bb i)) suf) rfl (kW_a4 hb) (by omega) (by decide) (kW_t4 hb) ?_
      refine wn_inc (lv' := [.ref b, .int (nI a), .int (nI bb), .int (nI J), .int (nI met), .int (nI (i + 1)), jv]) rfl rfl rfl ?_
      refine wq_goto rfl ?_
      rw [pw_s (v := wv J (sc a)) (by unfold wv; rw [c27]; rfl), pw_s (v := wv J (sc bb)) (by unfold wv; rw [c27]; rfl)]
      exact ih (i + 1) (by omega) jv
def sj (met J : Nat) (wf ws : Nat → Nat) (sc : Nat → Nat → Nat) (i : Nat) : Nat → Nat → Nat := fun x y =>
  if J.testBit y = true ∧ x < i then max (wf x) (ws x) else if J.testBit x = true ∧ y < i then max (wf y) (ws y)
  else if met < wf x ∧ met < ws y ∧ x < i ∧ y < 9 then min (wf x) (ws y) else if met < wf y ∧ met < ws x ∧ y < i ∧ x < 9 then min (wf y) (ws x) else sc x y
def si (met J : Nat) (wf ws : Nat → Nat) (sc : Nat → Nat → Nat) (i j : Nat) : Nat → Nat → Nat := fun x y =>
  if J.testBit y = true ∧ x < i + 1 then max (wf x) (ws x) else if J.testBit x = true ∧ y < i + 1 then max (wf y) (ws y)
  else if met < wf x ∧ met < ws y ∧ (x < i ∨ (x = i ∧ y < j)) ∧ y < 9 then min (wf x) (ws y) else if met < wf y ∧ met < ws x ∧ (y < i ∨ (y = i ∧ x < j)) ∧ x < 9 then min (wf y) (ws x) else sc x y
theorem sj_0 (met J : Nat) (wf ws : Nat → Nat) (sc : Nat → Nat → Nat) : sj met J wf ws sc 0 = sc := by
  funext x y
  unfold sj
  rw [if_neg (by omega), if_neg (by omega), if_neg (by omega), if_neg (by omega)]
theorem si_0 {met J i : Nat} {wf ws : Nat → Nat} {sc : Nat → Nat → Nat} (hi : i < 9) (hJ9 : J < 512) (hJ : ∀ p, p < 9 → J.testBit p = true → wf p = 0 ∧ ws p = 0) : ka (sj met J wf ws sc i) i J (max (wf i) (ws i)) 9 = si met J wf ws sc i 0 := by
  funext x y
  unfold ka
  by_cases h1 : J.testBit y = true ∧ x = i
  · rw [if_pos (Or.inl ⟨h1.2, lt9 hJ9 h1.1, h1.1⟩)]
    unfold si
    rw [if_pos (c := J.testBit y = true ∧ x < i + 1) ⟨h1.1, by omega⟩, h1.2]
  · by_cases h2 : J.testBit x = true ∧ y = i
    · have hx9 := lt9 hJ9 h2.1
      rw [if_pos (Or.inr ⟨h2.2, hx9, h2.1⟩)]
      unfold si
      by_cases h3 : J.testBit y = true ∧ x < i + 1
      · rw [if_pos h3, (hJ x hx9 h2.1).1, (hJ x hx9 h2.1).2]
        have h4 : J.testBit i = true := by rw [← h2.2]; exact h3.1
        rw [(hJ i hi h4).1, (hJ i hi h4).2]
      · rw [if_neg h3, if_pos (c := J.testBit x = true ∧ y < i + 1) ⟨h2.1, by omega⟩, h2.2]
    · rw [if_neg (fun q => q.elim (fun q => h1 ⟨q.2.2, q.1⟩) (fun q => h2 ⟨q.2.2, q.1⟩))]
      unfold sj si
      have e1 : (J.testBit y = true ∧ x < i) ↔ (J.testBit y = true ∧ x < i + 1) := ⟨fun q => ⟨q.1, by omega⟩, fun q => ⟨q.1, by
        rcases Nat.lt_or_eq_of_le (Nat.le_of_lt_succ q.2) with r | r
        · exact r
        · exact absurd ⟨q.1, r⟩ h1⟩⟩
      have e2 : (J.testBit x = true ∧ y < i) ↔ (J.testBit x = true ∧ y < i + 1) := ⟨fun q => ⟨q.1, by omega⟩, fun q => ⟨q.1, by
        rcases Nat.lt_or_eq_of_le (Nat.le_of_lt_succ q.2) with r | r
        · exact r
        · exact absurd ⟨q.1, r⟩ h2⟩⟩
      have e3 : (met < wf x ∧ met < ws y ∧ x < i ∧ y < 9) ↔ (met < wf x ∧ met < ws y ∧ (x < i ∨ (x = i ∧ y < 0)) ∧ y < 9) := by omega
      have e4 : (met < wf y ∧ met < ws x ∧ y < i ∧ x < 9) ↔ (met < wf y ∧ met < ws x ∧ (y < i ∨ (y = i ∧ x < 0)) ∧ x < 9) := by omega
      simp only [e1, e2, e3, e4]
theorem si_t {met J i j v : Nat} {wf ws : Nat → Nat} {sc : Nat → Nat → Nat} (hi : i < 9) (hj : j < 9) (hJ : ∀ p, p < 9 → J.testBit p = true → wf p = 0 ∧ ws p = 0) (hex : ∀ p, p < 9 → met < wf p → met < ws p → False) (h1 : met < wf i) (h2 : met < ws j) (hv : v = min (wf i) (ws j)) : sK (si met J wf ws sc i j) i j v = si met J wf ws sc i (j + 1) := by
  have n1 : ¬ J.testBit i = true := fun q => by have := (hJ i hi q).1; omega
  have n2 : ¬ J.testBit j = true := fun q => by have := (hJ j hj q).2; omega
  have n3 : ¬ met < wf j := fun q => hex j hj q h2
  funext x y
  unfold sK
  by_cases c1 : x = i ∧ y = j
  · obtain ⟨rfl, rfl⟩ := c1
    rw [if_pos (Or.inl ⟨rfl, rfl⟩)]
    unfold si
    rw [if_neg (c := J.testBit y = true ∧ _) (fun q => n2 q.1), if_neg (c := J.testBit x = true ∧ _) (fun q => n1 q.1), if_pos ⟨h1, h2, by omega, hj⟩, hv]
  · by_cases c2 : x = j ∧ y = i
    · obtain ⟨rfl, rfl⟩ := c2
      rw [if_pos (Or.inr ⟨rfl, rfl⟩)]
      unfold si
      rw [if_neg (c := J.testBit y = true ∧ _) (fun q => n1 q.1), if_neg (c := J.testBit x = true ∧ _) (fun q => n2 q.1), if_neg (c := met < wf x ∧ _) (fun q => n3 q.1), if_pos ⟨h1, h2, by omega, hj⟩, hv]
    · rw [if_neg (by omega)]
      unfold si
      have e3 : (x < i ∨ (x = i ∧ y < j)) ↔ (x < i ∨ (x = i ∧ y < j + 1)) := by omega
      have e4 : (y < i ∨ (y = i ∧ x < j)) ↔ (y < i ∨ (y = i ∧ x < j + 1)) := by omega
      simp only [e3, e4]
theorem si_f {met J i j : Nat} {wf ws : Nat → Nat} {sc : Nat → Nat → Nat} (h2 : ¬ met < ws j) : si met J wf ws sc i j = si met J wf ws sc i (j + 1) := by
  funext x y
  unfold si
  have e3 : (met < wf x ∧ met < ws y ∧ (x < i ∨ (x = i ∧ y < j)) ∧ y < 9) ↔ (met < wf x ∧ met < ws y ∧ (x < i ∨ (x = i ∧ y < j + 1)) ∧ y < 9) := by
    by_cases e : y = j
    · subst e
      constructor <;> exact fun q => absurd q.2.1 h2
    · omega
  have e4 : (met < wf y ∧ met < ws x ∧ (y < i ∨ (y = i ∧ x < j)) ∧ x < 9) ↔ (met < wf y ∧ met < ws x ∧ (y < i ∨ (y = i ∧ x < j + 1)) ∧ x < 9) := by
    by_cases e : x = j
    · subst e
      constructor <;> exact fun q => absurd q.2.1 h2
    · omega
  simp only [e3, e4]
theorem si_9 {met J i : Nat} {wf ws : Nat → Nat} {sc : Nat → Nat → Nat} : si met J wf ws sc i 9 = sj met J wf ws sc (i + 1) := by
  funext x y
  unfold si sj
  have e3 : (met < wf x ∧ met < ws y ∧ (x < i ∨ (x = i ∧ y < 9)) ∧ y < 9) ↔ (met < wf x ∧ met < ws y ∧ x < i + 1 ∧ y < 9) := by omega
  have e4 : (met < wf y ∧ met < ws x ∧ (y < i ∨ (y = i ∧ x < 9)) ∧ x < 9) ↔ (met < wf y ∧ met < ws x ∧ y < i + 1 ∧ x < 9) := by omega
  simp only [e3, e4]
theorem si_n {met J i j : Nat} {wf ws : Nat → Nat} {sc : Nat → Nat → Nat} (h : ¬ met < wf i) : si met J wf ws sc i j = sj met J wf ws sc (i + 1) := by
  funext x y
  unfold si sj
  have e3 : (met < wf x ∧ met < ws y ∧ (x < i ∨ (x = i ∧ y < j)) ∧ y < 9) ↔ (met < wf x ∧ met < ws y ∧ x < i + 1 ∧ y < 9) := by
    by_cases e : x = i
    · subst e
      constructor <;> exact fun q => absurd q.1 h
    · omega
  have e4 : (met < wf y ∧ met < ws x ∧ (y < i ∨ (y = i ∧ x < j)) ∧ x < 9) ↔ (met < wf y ∧ met < ws x ∧ y < i + 1 ∧ x < 9) := by
    by_cases e : y = i
    · subst e
      constructor <;> exact fun q => absurd q.1 h
    · omega
  simp only [e3, e4]
theorem l_Kin_join2 {d b : Nat} {pre suf : mH} {rt : Nat → Nat} {sc : Nat → Nat → Nat} {wf : Nat → Nat} {ws : Nat → Nat} {Q : Option Value → mH → Prop} (hb : pre.length = b) {a bb J met : Nat} (hm : met < 1000) (hJ9 : J < 512) (hJ : ∀ p, p < 9 → J.testBit p = true → wf p = 0 ∧ ws p = 0) (hex : ∀ p, p < 9 → met < wf p → met < ws p → False) (hw : ∀ p, p < 9 → wf p < 1000 ∧ ws p < 1000) {i : Nat} (hi : i < 9) (k : ∀ jv : Value, WP (Rn mprog (d + 2)) k_Kin_join none Q 200 [.ref b, .int (nI a), .int (nI bb), .int (nI J), .int (nI met), .int (nI i), jv] [] (kW b pre rt (sj met J wf ws sc (i + 1)) wf ws suf)) : ∀ (n j : Nat), j + n = 9 → WP (Rn mprog (d + 2)) k_Kin_join none Q 138 [.ref b, .int (nI a), .int (nI bb), .int (nI J), .int (nI met), .int (nI i), .int (nI j)] [] (kW b pre rt (si met J wf ws sc i j) wf ws suf) := by
  intro n
  have hwi := hw i hi
  induction n with
  | zero =>
    intro j hj
    have e : j = 9 := by omega
    subst e
    refine wq_iload rfl rfl ?_
    refine wq_bipush (v := nI 9) rfl (by decide) ?_
    refine wq_ic_ge rfl (fun _ => ?_) (fun c => absurd c (by decide))
    rw [si_9]
    exact k _
  | succ n ih =>
    intro j hj
    have hwj := hw j (by omega)
    refine wq_iload rfl rfl ?_
    refine wq_bipush (v := nI 9) rfl (by decide) ?_
    refine wn_ic_ge rfl (by omega) (by omega) (fun c142 => absurd c142 (by omega)) (fun c142 => ?_)
    refine wq_aload_n rfl rfl ?_
    refine wq_getfield (v := .ref (b + 3)) rfl (kW_o0 hb) rfl ?_
    refine wq_iload rfl rfl ?_
    refine wn_iaload (g := wf) rfl (kW_a3 hb) (by omega) (by decide) ?_
    refine wq_iload rfl rfl ?_
    refine wn_ic_le rfl (by omega) (by omega) (fun c154 => ?_) (fun c154 => ?_)
    · skip
      rw [si_n (i := i) (j := j) (by omega)]
      exact k _
    · skip
      refine wq_aload_n rfl rfl ?_
      refine wq_getfield (v := .ref (b + 4)) rfl (kW_o0 hb) rfl ?_
      refine wq_iload rfl rfl ?_
      refine wn_iaload (g := ws) rfl (kW_a4 hb) (by omega) (by decide) ?_
      refine wq_iload rfl rfl ?_
      refine wn_ic_le rfl (by omega) (by omega) (fun c166 => ?_) (fun c166 => ?_)
      · skip
        refine wn_inc (lv' := [.ref b, .int (nI a), .int (nI bb), .int (nI J), .int (nI met), .int (nI i), .int (nI (j + 1))]) rfl rfl rfl ?_
        refine wq_goto rfl ?_
        rw [si_f (i := i) (j := j) (by omega)]
        exact ih (j + 1) (by omega)
      · skip
        refine wq_aload_n rfl rfl ?_
        refine wq_iload rfl rfl ?_
        refine wq_iload rfl rfl ?_
        refine wq_aload_n rfl rfl ?_
        refine wq_getfield (v := .ref (b + 3)) rfl (kW_o0 hb) rfl ?_
        refine wq_iload rfl rfl ?_
        refine wn_iaload (g := wf) rfl (kW_a3 hb) (by omega) (by decide) ?_
        refine wq_aload_n rfl rfl ?_
        refine wq_getfield (v := .ref (b + 4)) rfl (kW_o0 hb) rfl ?_
        refine wq_iload rfl rfl ?_
        refine wn_iaload (g := ws) rfl (kW_a4 hb) (by omega) (by decide) ?_
        refine wn_min rfl rfl (by omega) (by omega) rfl ?_
        refine wq_virt (b := b) (a := [.int (nI i), .int (nI j), .int (nI (min (wf i) (ws j)))]) (rest := []) rfl rfl rfl rfl rfl (kW_o0 hb) ?_
        refine r_Kin_setSince hb (by omega) (by omega) ?_
        show WP _ _ _ _ 194 [.ref b, .int (nI a), .int (nI bb), .int (nI J), .int (nI met), .int (nI i), .int (nI j)] [] (kW b pre rt (sK (si met J wf ws sc i j) i j (min (wf i) (ws j))) wf ws suf)
        refine wn_inc (lv' := [.ref b, .int (nI a), .int (nI bb), .int (nI J), .int (nI met), .int (nI i), .int (nI (j + 1))]) rfl rfl rfl ?_
        refine wq_goto rfl ?_
        rw [si_t hi (by omega) hJ hex c154 c166 rfl]
        exact ih (j + 1) (by omega)
theorem l_Kin_join3 {d b : Nat} {pre suf : mH} {rt : Nat → Nat} {sc : Nat → Nat → Nat} {wf : Nat → Nat} {ws : Nat → Nat} {Q : Option Value → mH → Prop} (hb : pre.length = b) {a bb J met : Nat} (hm : met < 1000) (hJ9 : J < 512) (hJ : ∀ p, p < 9 → J.testBit p = true → wf p = 0 ∧ ws p = 0) (hex : ∀ p, p < 9 → met < wf p → met < ws p → False) (hw : ∀ p, p < 9 → wf p < 1000 ∧ ws p < 1000) (hQ : Q none (kW b pre rt (sj met J wf ws sc 9) wf ws suf)) : ∀ (n i : Nat), i + n = 9 → ∀ jv : Value, WP (Rn mprog (d + 2)) k_Kin_join none Q 104 [.ref b, .int (nI a), .int (nI bb), .int (nI J), .int (nI met), .int (nI i), jv] [] (kW b pre rt (sj met J wf ws sc i) wf ws suf) := by
  intro n
  induction n with
  | zero =>
    intro i hi jv
    have e : i = 9 := by omega
    subst e
    refine wq_iload rfl rfl ?_
    refine wq_bipush (v := nI 9) rfl (by decide) ?_
    refine wq_ic_ge rfl (fun _ => ?_) (fun c => absurd c (by decide))
    refine wq_vret rfl rfl ?_
    exact hQ
  | succ n ih =>
    intro i hi jv
    have hwi := hw i (by omega)
    refine wq_iload rfl rfl ?_
    refine wq_bipush (v := nI 9) rfl (by decide) ?_
    refine wn_ic_ge rfl (by omega) (by omega) (fun c108 => absurd c108 (by omega)) (fun c108 => ?_)
    refine wq_aload_n rfl rfl ?_
    refine wq_iload rfl rfl ?_
    refine wq_iload_n rfl rfl ?_
    refine wq_aload_n rfl rfl ?_
    refine wq_getfield (v := .ref (b + 3)) rfl (kW_o0 hb) rfl ?_
    refine wq_iload rfl rfl ?_
    refine wn_iaload (g := wf) rfl (kW_a3 hb) (by omega) (by decide) ?_
    refine wq_aload_n rfl rfl ?_
    refine wq_getfield (v := .ref (b + 4)) rfl (kW_o0 hb) rfl ?_
    refine wq_iload rfl rfl ?_
    refine wn_iaload (g := ws) rfl (kW_a4 hb) (by omega) (by decide) ?_
    refine wn_max rfl rfl (by omega) (by omega) rfl ?_
    refine wq_virt (b := b) (a := [.int (nI i), .int (nI J), .int (nI (max (wf i) (ws i)))]) (rest := []) rfl rfl rfl rfl rfl (kW_o0 hb) ?_
    refine r_Kin_ssa hb (by omega) (by omega) ?_
    show WP _ _ _ _ 135 [.ref b, .int (nI a), .int (nI bb), .int (nI J), .int (nI met), .int (nI i), jv] [] (kW b pre rt (ka (sj met J wf ws sc i) i J (max (wf i) (ws i)) 9) wf ws suf)
    refine wq_iconst (v := nI 0) rfl (by decide) ?_
    refine wq_istore (lv' := [.ref b, .int (nI a), .int (nI bb), .int (nI J), .int (nI met), .int (nI i), .int (nI 0)]) rfl rfl rfl ?_
    rw [si_0 (by omega) hJ9 hJ]
    refine l_Kin_join2 hb hm hJ9 hJ hex hw (i := i) (by omega) (fun jv => ?_) 9 0 rfl
    refine wn_inc (lv' := [.ref b, .int (nI a), .int (nI bb), .int (nI J), .int (nI met), .int (nI (i + 1)), jv]) rfl rfl rfl ?_
    refine wq_goto rfl ?_
    exact ih (i + 1) (by omega) _
theorem l_Kin_join1' {d b : Nat} {pre suf : mH} {rt : Nat → Nat} {sc : Nat → Nat → Nat} {wf : Nat → Nat} {ws : Nat → Nat} {Q : Option Value → mH → Prop} (hb : pre.length = b) {a bb J met : Nat} (ha : a < 9) (hbb : bb < 9) (hJ : J < 512) (k : ∀ jv : Value, WP (Rn mprog (d + 2)) k_Kin_join none Q 78 [.ref b, .int (nI a), .int (nI bb), .int (nI J), .int (nI met), .int (nI 9), jv] [] (kW b pre rt sc (pw 9 (fun _ => true) (wv J (sc a)) wf) (pw 9 (fun _ => true) (wv J (sc bb)) ws) suf)) (jv : Value) : WP (Rn mprog (d + 2)) k_Kin_join none Q 11 [.ref b, .int (nI a), .int (nI bb), .int (nI J), .int (nI met), .int (nI 0), jv] [] (kW b pre rt sc wf ws suf) := by
  have q := l_Kin_join1 (d := d) hb ha hbb hJ k 9 0 rfl jv
  rw [pw_0, pw_0] at q
  exact q
theorem l_Kin_join3' {d b : Nat} {pre suf : mH} {rt : Nat → Nat} {sc : Nat → Nat → Nat} {wf : Nat → Nat} {ws : Nat → Nat} {Q : Option Value → mH → Prop} (hb : pre.length = b) {a bb J met : Nat} (hm : met < 1000) (hJ9 : J < 512) (hJ : ∀ p, p < 9 → J.testBit p = true → wf p = 0 ∧ ws p = 0) (hex : ∀ p, p < 9 → met < wf p → met < ws p → False) (hw : ∀ p, p < 9 → wf p < 1000 ∧ ws p < 1000) (hQ : Q none (kW b pre rt (sj met J wf ws sc 9) wf ws suf)) (jv : Value) : WP (Rn mprog (d + 2)) k_Kin_join none Q 104 [.ref b, .int (nI a), .int (nI bb), .int (nI J), .int (nI met), .int (nI 0), jv] [] (kW b pre rt sc wf ws suf) := by
  have q := l_Kin_join3 (d := d) (a := a) (bb := bb) hb hm hJ9 hJ hex hw hQ 9 0 rfl jv
  rw [sj_0] at q
  exact q
theorem r_Kin_join {d b : Nat} {pre suf : mH} {rt : Nat → Nat} {sc : Nat → Nat → Nat} {wf : Nat → Nat} {ws : Nat → Nat} {Q : Option Value → mH → Prop} (hb : pre.length = b) {a bb J : Nat} (ha : a < 9) (hbb : bb < 9) (hJ9 : J < 512) (hk : ∀ p q, p < 9 → q < 9 → sc p q < 1000) (hr : ∀ p, p < 9 → rt p < 1000) (hex : ∀ p, p < 9 → sc a bb < wv J (sc a) p → sc a bb < wv J (sc bb) p → False) (hQ : Q none (kW b pre (if sc a bb = 0 then pw 9 (lR J (pw 9 (fun _ => true) (wv J (sc a)) wf) (pw 9 (fun _ => true) (wv J (sc bb)) ws)) (fun _ => min (rt a) (rt bb)) rt else rt) (sj (sc a bb) J (pw 9 (fun _ => true) (wv J (sc a)) wf) (pw 9 (fun _ => true) (wv J (sc bb)) ws) sc 9) (pw 9 (fun _ => true) (wv J (sc a)) wf) (pw 9 (fun _ => true) (wv J (sc bb)) ws) suf)) : Rn mprog (d + 3) n_Kin_join [.ref b, .int (nI a), .int (nI bb), .int (nI J)] (kW b pre rt sc wf ws suf) Q := by
  refine Rn.in rfl rfl rfl ?_
  show WP _ _ _ _ 0 [.ref b, .int (nI a), .int (nI bb), .int (nI J), .long 0, .long 0, .long 0] [] (kW b pre rt sc wf ws suf)
  have hm := hk a bb ha hbb
  have hra := hr a ha
  have hrb := hr bb hbb
  have hf9 : ∀ p, p < 9 → (pw 9 (fun _ => true) (wv J (sc a)) wf) p = wv J (sc a) p := fun p hp => pw_in hp rfl
  have hs9 : ∀ p, p < 9 → (pw 9 (fun _ => true) (wv J (sc bb)) ws) p = wv J (sc bb) p := fun p hp => pw_in hp rfl
  have hw9 : ∀ p, p < 9 → (pw 9 (fun _ => true) (wv J (sc a)) wf) p < 1000 ∧ (pw 9 (fun _ => true) (wv J (sc bb)) ws) p < 1000 := by
    intro p hp
    rw [hf9 p hp, hs9 p hp]
    unfold wv
    have h1 := hk a p ha hp
    have h2 := hk bb p hbb hp
    split <;> omega
  have hJ0 : ∀ p, p < 9 → J.testBit p = true → (pw 9 (fun _ => true) (wv J (sc a)) wf) p = 0 ∧ (pw 9 (fun _ => true) (wv J (sc bb)) ws) p = 0 := by
    intro p hp q
    rw [hf9 p hp, hs9 p hp]
    unfold wv
    rw [if_pos q, if_pos q]
    exact ⟨rfl, rfl⟩
  have hex9 : ∀ p, p < 9 → sc a bb < (pw 9 (fun _ => true) (wv J (sc a)) wf) p → sc a bb < (pw 9 (fun _ => true) (wv J (sc bb)) ws) p → False := by
    intro p hp q1 q2
    rw [hf9 p hp] at q1
    rw [hs9 p hp] at q2
    exact hex p hp q1 q2
  refine wq_aload_n rfl rfl ?_
  refine wq_iload_n rfl rfl ?_
  refine wq_iload_n rfl rfl ?_
  refine wq_virt (b := b) (a := [.int (nI a), .int (nI bb)]) (rest := []) rfl rfl rfl rfl rfl (kW_o0 hb) ?_
  refine r_Kin_sinceOf hb (by omega) (by omega) ?_
  show WP _ _ _ _ 6 [.ref b, .int (nI a), .int (nI bb), .int (nI J), .long 0, .long 0, .long 0] [.int (nI (sc a bb))] (kW b pre rt sc wf ws suf)
  refine wq_istore (lv' := [.ref b, .int (nI a), .int (nI bb), .int (nI J), .int (nI (sc a bb)), .long 0, .long 0]) rfl rfl rfl ?_
  refine wq_iconst (v := nI 0) rfl (by decide) ?_
  refine wq_istore (lv' := [.ref b, .int (nI a), .int (nI bb), .int (nI J), .int (nI (sc a bb)), .int (nI 0), .long 0]) rfl rfl rfl ?_
  refine l_Kin_join1' (met := sc a bb) hb ha hbb hJ9 (fun jv => ?_) _
  have K101 : WP (Rn mprog (d + 2)) k_Kin_join none Q 101 [.ref b, .int (nI a), .int (nI bb), .int (nI J), .int (nI (sc a bb)), .int (nI 9), jv] [] (kW b pre (if sc a bb = 0 then pw 9 (lR J (pw 9 (fun _ => true) (wv J (sc a)) wf) (pw 9 (fun _ => true) (wv J (sc bb)) ws)) (fun _ => min (rt a) (rt bb)) rt else rt) sc (pw 9 (fun _ => true) (wv J (sc a)) wf) (pw 9 (fun _ => true) (wv J (sc bb)) ws) suf) := by
    refine wq_iconst (v := nI 0) rfl (by decide) ?_
    refine wq_istore (lv' := [.ref b, .int (nI a), .int (nI bb), .int (nI J), .int (nI (sc a bb)), .int (nI 0), jv]) rfl rfl rfl ?_
    exact l_Kin_join3' hb hm hJ9 hJ0 hex9 hw9 hQ _
  refine wq_iload rfl rfl ?_
  refine wn_if_ne rfl (by omega) (fun c80 => ?_) (fun c80 => ?_)
  · skip
    rw [if_neg c80] at K101
    exact K101
  · skip
    refine wq_aload_n rfl rfl ?_
    refine wq_aload_n rfl rfl ?_
    refine wq_iload_n rfl rfl ?_
    refine wq_virt (b := b) (a := [.int (nI a)]) (rest := [.ref b]) rfl rfl rfl rfl rfl (kW_o0 hb) ?_
    refine r_Kin_rootOf hb (by omega) ?_
    show WP _ _ _ _ 89 [.ref b, .int (nI a), .int (nI bb), .int (nI J), .int (nI (sc a bb)), .int (nI 9), jv] [.int (nI (rt a)), .ref b] (kW b pre rt sc (pw 9 (fun _ => true) (wv J (sc a)) wf) (pw 9 (fun _ => true) (wv J (sc bb)) ws) suf)
    refine wq_aload_n rfl rfl ?_
    refine wq_iload_n rfl rfl ?_
    refine wq_virt (b := b) (a := [.int (nI bb)]) (rest := [.int (nI (rt a)), .ref b]) rfl rfl rfl rfl rfl (kW_o0 hb) ?_
    refine r_Kin_rootOf hb (by omega) ?_
    show WP _ _ _ _ 94 [.ref b, .int (nI a), .int (nI bb), .int (nI J), .int (nI (sc a bb)), .int (nI 9), jv] [.int (nI (rt bb)), .int (nI (rt a)), .ref b] (kW b pre rt sc (pw 9 (fun _ => true) (wv J (sc a)) wf) (pw 9 (fun _ => true) (wv J (sc bb)) ws) suf)
    refine wn_min rfl rfl (by omega) (by omega) rfl ?_
    refine wq_iload_n rfl rfl ?_
    refine wq_virt (b := b) (a := [.int (nI (min (rt a) (rt bb))), .int (nI J)]) (rest := []) rfl rfl rfl rfl rfl (kW_o0 hb) ?_
    refine r_Kin_low hb hJ9 hw9 ?_
    show WP _ _ _ _ 101 [.ref b, .int (nI a), .int (nI bb), .int (nI J), .int (nI (sc a bb)), .int (nI 9), jv] [] (kW b pre (pw 9 (lR J (pw 9 (fun _ => true) (wv J (sc a)) wf) (pw 9 (fun _ => true) (wv J (sc bb)) ws)) (fun _ => min (rt a) (rt bb)) rt) sc (pw 9 (fun _ => true) (wv J (sc a)) wf) (pw 9 (fun _ => true) (wv J (sc bb)) ws) suf)
    rw [if_pos c80] at K101
    exact K101
end
section
/-! Bars -/
theorem r_Bars_empty {d b : Nat} {pre suf : mH} {bsz : Nat} {bop : Nat} {bbg : Nat → Nat} {ben : Nat → Nat} {Q : Option Value → mH → Prop} (hb : pre.length = b) (hQ : Q none (bW b pre 0 0 bbg ben suf)) : Rn mprog (d + 1) n_Bars_empty [.ref b] (bW b pre bsz bop bbg ben suf) Q := by
  refine Rn.in rfl rfl rfl ?_
  show WP _ _ _ _ 0 [.ref b] [] (bW b pre bsz bop bbg ben suf)
  refine wq_aload_n rfl rfl ?_
  refine wq_iconst (v := nI 0) rfl (by decide) ?_
  refine wq_putfield (h' := bW b pre 0 bop bbg ben suf) rfl (bW_o0 hb) rfl (bW_s0_2 hb) ?_
  refine wq_aload_n rfl rfl ?_
  refine wq_iconst (v := nI 0) rfl (by decide) ?_
  refine wq_putfield (h' := bW b pre 0 0 bbg ben suf) rfl (bW_o0 hb) rfl (bW_s0_3 hb) ?_
  refine wq_vret rfl rfl ?_
  exact hQ
theorem r_Bars_size {d b : Nat} {pre suf : mH} {bsz : Nat} {bop : Nat} {bbg : Nat → Nat} {ben : Nat → Nat} {Q : Option Value → mH → Prop} (hb : pre.length = b) (hQ : Q (some (.int (nI bsz))) (bW b pre bsz bop bbg ben suf)) : Rn mprog (d + 1) n_Bars_size [.ref b] (bW b pre bsz bop bbg ben suf) Q := by
  refine Rn.in rfl rfl rfl ?_
  show WP _ _ _ _ 0 [.ref b] [] (bW b pre bsz bop bbg ben suf)
  refine wq_aload_n rfl rfl ?_
  refine wq_getfield (v := .int (nI bsz)) rfl (bW_o0 hb) rfl ?_
  refine wq_iret rfl trivial ?_
  exact hQ
theorem r_Bars_open {d b : Nat} {pre suf : mH} {bsz : Nat} {bop : Nat} {bbg : Nat → Nat} {ben : Nat → Nat} {Q : Option Value → mH → Prop} (hb : pre.length = b) (hQ : Q (some (.int (nI bop))) (bW b pre bsz bop bbg ben suf)) : Rn mprog (d + 1) n_Bars_open [.ref b] (bW b pre bsz bop bbg ben suf) Q := by
  refine Rn.in rfl rfl rfl ?_
  show WP _ _ _ _ 0 [.ref b] [] (bW b pre bsz bop bbg ben suf)
  refine wq_aload_n rfl rfl ?_
  refine wq_getfield (v := .int (nI bop)) rfl (bW_o0 hb) rfl ?_
  refine wq_iret rfl trivial ?_
  exact hQ
theorem r_Bars_beginOf {d c bsz bop : Nat} {bbg ben : Nat → Nat} {h : mH} {Q : Option Value → mH → Prop} (ho : h[c]? = some (.inr (0, [.ref (c + 1), .ref (c + 2), .int (nI bsz), .int (nI bop)]))) (h1 : h[c + 1]? = some (.inl (0, 40, .inl (nA bbg)))) (h2 : h[c + 2]? = some (.inl (0, 40, .inl (nA ben)))) (hn : bsz ≤ 40) {i : Nat} (hi : i < bsz) (hQ : Q (some (.int (nI (bbg i)))) h) : Rn mprog (d + 1) n_Bars_beginOf [.ref c, .int (nI i)] h Q := by
  refine Rn.in rfl rfl rfl ?_
  show WP _ _ _ _ 0 [.ref c, .int (nI i)] [] h
  refine wq_iload_n rfl rfl ?_
  refine wn_if_lt rfl (by omega) ?_
  refine wq_iload_n rfl rfl ?_
  refine wq_aload_n rfl rfl ?_
  refine wq_getfield (v := .int (nI bsz)) rfl ho rfl ?_
  refine wn_ic_ge rfl (by omega) (by omega) (fun c9 => absurd c9 (by omega)) (fun c9 => ?_)
  refine wq_iload_n rfl rfl ?_
  refine wq_aload_n rfl rfl ?_
  refine wq_getfield (v := .ref (c + 1)) rfl ho rfl ?_
  refine wq_alen (v := nI 40) rfl h1 rfl rfl ?_
  refine wn_ic_ge rfl (by omega) (by omega) (fun c18 => absurd c18 (by omega)) (fun c18 => ?_)
  refine wq_aload_n rfl rfl ?_
  refine wq_getfield (v := .ref (c + 1)) rfl ho rfl ?_
  refine wq_iload_n rfl rfl ?_
  refine wn_iaload (g := bbg) rfl h1 (by omega) (by decide) ?_
  refine wq_goto rfl ?_
  refine wq_iret rfl trivial ?_
  exact hQ
theorem r_Bars_endOf {d c bsz bop : Nat} {bbg ben : Nat → Nat} {h : mH} {Q : Option Value → mH → Prop} (ho : h[c]? = some (.inr (0, [.ref (c + 1), .ref (c + 2), .int (nI bsz), .int (nI bop)]))) (h1 : h[c + 1]? = some (.inl (0, 40, .inl (nA bbg)))) (h2 : h[c + 2]? = some (.inl (0, 40, .inl (nA ben)))) (hn : bsz ≤ 40) {i : Nat} (hi : i < bsz) (hQ : Q (some (.int (nI (ben i)))) h) : Rn mprog (d + 1) n_Bars_endOf [.ref c, .int (nI i)] h Q := by
  refine Rn.in rfl rfl rfl ?_
  show WP _ _ _ _ 0 [.ref c, .int (nI i)] [] h
  refine wq_iload_n rfl rfl ?_
  refine wn_if_lt rfl (by omega) ?_
  refine wq_iload_n rfl rfl ?_
  refine wq_aload_n rfl rfl ?_
  refine wq_getfield (v := .int (nI bsz)) rfl ho rfl ?_
  refine wn_ic_ge rfl (by omega) (by omega) (fun c9 => absurd c9 (by omega)) (fun c9 => ?_)
  refine wq_iload_n rfl rfl ?_
  refine wq_aload_n rfl rfl ?_
  refine wq_getfield (v := .ref (c + 2)) rfl ho rfl ?_
  refine wq_alen (v := nI 40) rfl h2 rfl rfl ?_
  refine wn_ic_ge rfl (by omega) (by omega) (fun c18 => absurd c18 (by omega)) (fun c18 => ?_)
  refine wq_aload_n rfl rfl ?_
  refine wq_getfield (v := .ref (c + 2)) rfl ho rfl ?_
  refine wq_iload_n rfl rfl ?_
  refine wn_iaload (g := ben) rfl h2 (by omega) (by decide) ?_
  refine wq_goto rfl ?_
  refine wq_iret rfl trivial ?_
  exact hQ
/-- (a, b) comes behind (x, y) -/
def gtP (a b x y : Nat) : Bool := Nat.blt x a || (Nat.beq a x && Nat.blt y b)
theorem gtP_iff {a b x y : Nat} : gtP a b x y = true ↔ x < a ∨ (a = x ∧ y < b) := by
  unfold gtP
  rw [Bool.or_eq_true, Bool.and_eq_true, nblt, nblt, Nat.beq_eq]
theorem gtP_f {a b x y : Nat} (h : ¬ (x < a ∨ (a = x ∧ y < b))) : gtP a b x y = false := by
  cases e : gtP a b x y
  · rfl
  · exact absurd (gtP_iff.mp e) h
theorem r_cmpN {d x y : Nat} {h : mH} {Q : Option Value → mH → Prop} (hx : x < 2 ^ 31) (hy : y < 2 ^ 31) (k1 : x < y → Q (some (.int (-1))) h) (k2 : x = y → Q (some (.int (nI 0))) h) (k3 : y < x → Q (some (.int (nI 1))) h) : Rn mprog (d + 1) n_Int_compare [.int (nI x), .int (nI y)] h Q :=
  r_compare (fun q => k1 ((nI_ltI hx hy).mp q)) (fun q => k2 ((nI_eq hx hy).mp q)) (fun q1 q2 => k3 (by
    rcases Nat.lt_trichotomy x y with r | r | r
    · exact absurd ((nI_ltI hx hy).mpr r) q1
    · exact absurd ((nI_eq hx hy).mpr r) q2
    · exact r))
theorem r_Bars_compare {d c bsz bop : Nat} {bbg ben : Nat → Nat} {h : mH} {Q : Option Value → mH → Prop} (ho : h[c]? = some (.inr (0, [.ref (c + 1), .ref (c + 2), .int (nI bsz), .int (nI bop)]))) (h1 : h[c + 1]? = some (.inl (0, 40, .inl (nA bbg)))) (h2 : h[c + 2]? = some (.inl (0, 40, .inl (nA ben)))) (hn : bsz ≤ 40) {i x y : Nat} (hi : i < bsz) (hv : bbg i < 2 ^ 31 ∧ ben i < 2 ^ 31) (hx : x < 2 ^ 31) (hy : y < 2 ^ 31) (k1 : (bbg i < x ∨ (bbg i = x ∧ ben i < y)) → Q (some (.int (-1))) h) (k2 : bbg i = x → ben i = y → Q (some (.int (nI 0))) h) (k3 : (x < bbg i ∨ (bbg i = x ∧ y < ben i)) → Q (some (.int (nI 1))) h) : Rn mprog (d + 2) n_Bars_compare [.ref c, .int (nI i), .int (nI x), .int (nI y)] h Q := by
  refine Rn.in rfl rfl rfl ?_
  show WP _ _ _ _ 0 [.ref c, .int (nI i), .int (nI x), .int (nI y), .long 0] [] h
  refine wq_aload_n rfl rfl ?_
  refine wq_iload_n rfl rfl ?_
  refine wq_virt (b := c) (a := [.int (nI i)]) (rest := []) rfl rfl rfl rfl rfl ho ?_
  refine r_Bars_beginOf ho h1 h2 hn (by omega) ?_
  show WP _ _ _ _ 5 [.ref c, .int (nI i), .int (nI x), .int (nI y), .long 0] [.int (nI (bbg i))] h
  refine wq_iload_n rfl rfl ?_
  refine wq_stat (a := [.int (nI (bbg i)), .int (nI x)]) (rest := []) rfl rfl rfl rfl rfl ?_
  refine r_cmpN (by omega) (by omega) (fun c6 => ?_) (fun c6 => ?_) (fun c6 => ?_)
  · skip
    show WP _ _ _ _ 9 [.ref c, .int (nI i), .int (nI x), .int (nI y), .long 0] [.int ((-1))] h
    refine wq_istore (lv' := [.ref c, .int (nI i), .int (nI x), .int (nI y), .int ((-1))]) rfl rfl rfl ?_
    refine wq_iload rfl rfl ?_
    refine wq_if_eq rfl (fun c13 => absurd c13 (by decide)) (fun c13 => ?_)
    refine wq_iload rfl rfl ?_
    refine wq_goto rfl ?_
    refine wq_iret rfl trivial ?_
    exact k1 (Or.inl c6)
  · skip
    show WP _ _ _ _ 9 [.ref c, .int (nI i), .int (nI x), .int (nI y), .long 0] [.int (nI 0)] h
    refine wq_istore (lv' := [.ref c, .int (nI i), .int (nI x), .int (nI y), .int (nI 0)]) rfl rfl rfl ?_
    refine wq_iload rfl rfl ?_
    refine wq_if_eq rfl (fun _ => ?_) (fun c => absurd c (by decide))
    refine wq_aload_n rfl rfl ?_
    refine wq_iload_n rfl rfl ?_
    refine wq_virt (b := c) (a := [.int (nI i)]) (rest := []) rfl rfl rfl rfl rfl ho ?_
    refine r_Bars_endOf ho h1 h2 hn (by omega) ?_
    show WP _ _ _ _ 26 [.ref c, .int (nI i), .int (nI x), .int (nI y), .int (nI 0)] [.int (nI (ben i))] h
    refine wq_iload_n rfl rfl ?_
    refine wq_stat (a := [.int (nI (ben i)), .int (nI y)]) (rest := []) rfl rfl rfl rfl rfl ?_
    refine r_cmpN (by omega) (by omega) (fun c27 => ?_) (fun c27 => ?_) (fun c27 => ?_)
    · skip
      show WP _ _ _ _ 30 [.ref c, .int (nI i), .int (nI x), .int (nI y), .int (nI 0)] [.int ((-1))] h
      refine wq_iret rfl trivial ?_
      exact k1 (Or.inr ⟨c6, c27⟩)
    · skip
      show WP _ _ _ _ 30 [.ref c, .int (nI i), .int (nI x), .int (nI y), .int (nI 0)] [.int (nI 0)] h
      refine wq_iret rfl trivial ?_
      exact k2 c6 c27
    · skip
      show WP _ _ _ _ 30 [.ref c, .int (nI i), .int (nI x), .int (nI y), .int (nI 0)] [.int (nI 1)] h
      refine wq_iret rfl trivial ?_
      exact k3 (Or.inr ⟨c6, c27⟩)
  · skip
    show WP _ _ _ _ 9 [.ref c, .int (nI i), .int (nI x), .int (nI y), .long 0] [.int (nI 1)] h
    refine wq_istore (lv' := [.ref c, .int (nI i), .int (nI x), .int (nI y), .int (nI 1)]) rfl rfl rfl ?_
    refine wq_iload rfl rfl ?_
    refine wq_if_eq rfl (fun c => absurd c (by decide)) (fun _ => ?_)
    refine wq_iload rfl rfl ?_
    refine wq_goto rfl ?_
    refine wq_iret rfl trivial ?_
    exact k3 (Or.inl c6)
def shA (f : Nat → Nat) (p n : Nat) : Nat → Nat := fun j => if p < j ∧ j ≤ n then f (j - 1) else f j
theorem shA_0 (f : Nat → Nat) (n : Nat) : shA f n n = f := by
  funext j
  unfold shA
  rw [if_neg (by omega)]
theorem shA_lo {f : Nat → Nat} {p n j : Nat} (h : j ≤ p) : shA f p n j = f j := by
  unfold shA
  rw [if_neg (by omega)]
theorem shA_s {f : Nat → Nat} {p n v : Nat} (h : p + 1 ≤ n) (hv : v = f p) : uN' (shA f (p + 1) n) (p + 1) v = shA f p n := by
  funext j
  unfold uN' shA
  by_cases e : j = p + 1
  · rw [if_pos e, if_pos (by omega), hv, e]
    rfl
  · rw [if_neg e]
    by_cases e2 : p + 1 < j ∧ j ≤ n
    · rw [if_pos e2, if_pos (by omega)]
    · rw [if_neg e2, if_neg (by omega)]
def inA (f : Nat → Nat) (p n x : Nat) : Nat → Nat := uN' (shA f p n) p x
theorem r_Bars_cmpS {d b : Nat} {pre suf : mH} {bsz : Nat} {bop : Nat} {bbg : Nat → Nat} {ben : Nat → Nat} {Q : Option Value → mH → Prop} (hb : pre.length = b) {p x y : Nat} (hn : bsz < 40) (hp : p < bsz) (hv : bbg p < 2 ^ 31 ∧ ben p < 2 ^ 31) (hx : x < 2 ^ 31) (hy : y < 2 ^ 31) (k1 : ¬ (x < bbg p ∨ (bbg p = x ∧ y < ben p)) → Q (some (.int (-1))) (bW b pre bsz bop (shA bbg (p + 1) bsz) (shA ben (p + 1) bsz) suf)) (k2 : ¬ (x < bbg p ∨ (bbg p = x ∧ y < ben p)) → Q (some (.int (nI 0))) (bW b pre bsz bop (shA bbg (p + 1) bsz) (shA ben (p + 1) bsz) suf)) (k3 : (x < bbg p ∨ (bbg p = x ∧ y < ben p)) → Q (some (.int (nI 1))) (bW b pre bsz bop (shA bbg (p + 1) bsz) (shA ben (p + 1) bsz) suf)) : Rn mprog (d + 2) n_Bars_compare [.ref b, .int (nI p), .int (nI x), .int (nI y)] (bW b pre bsz bop (shA bbg (p + 1) bsz) (shA ben (p + 1) bsz) suf) Q := by
  have e1 : shA bbg (p + 1) bsz p = bbg p := shA_lo (Nat.le_succ p)
  have e2 : shA ben (p + 1) bsz p = ben p := shA_lo (Nat.le_succ p)
  refine r_Bars_compare (bW_o0 hb) (bW_a1 hb) (bW_a2 hb) (by omega) hp (by rw [e1, e2]; exact hv) hx hy (fun q => ?_) (fun q q2 => ?_) (fun q => ?_)
  · rw [e1, e2] at q
    exact k1 (by omega)
  · rw [e1] at q
    rw [e2] at q2
    exact k2 (by omega)
  · rw [e1, e2] at q
    exact k3 q
theorem l_Bars_add {d b : Nat} {pre suf : mH} {bsz : Nat} {bop : Nat} {bbg : Nat → Nat} {ben : Nat → Nat} {Q : Option Value → mH → Prop} (hb : pre.length = b) {x y : Nat} (hn : bsz < 40) (hv : ∀ i, i < 40 → bbg i < 2 ^ 31 ∧ ben i < 2 ^ 31) (hx : x < 2 ^ 31) (hy : y < 2 ^ 31) (hQ : ∀ p, p ≤ bsz → (∀ i, p ≤ i → i < bsz → gtP (bbg i) (ben i) x y = true) → (p = 0 ∨ gtP (bbg (p - 1)) (ben (p - 1)) x y = false) → Q none (bW b pre (bsz + 1) (if y = 99 then bop + 1 else bop) (inA bbg p bsz x) (inA ben p bsz y) suf)) : ∀ p, p ≤ bsz → (∀ i, p ≤ i → i < bsz → gtP (bbg i) (ben i) x y = true) → WP (Rn mprog (d + 2)) k_Bars_add none Q 37 [.ref b, .int (nI x), .int (nI y), .int (nI p)] [] (bW b pre bsz bop (shA bbg p bsz) (shA ben p bsz) suf) := by
  intro p
  induction p with
  | zero =>
    intro hp hg
    refine wq_iload_n rfl rfl ?_
    refine wq_if_le rfl (fun _ => ?_) (fun c => absurd c (by decide))
    refine wq_aload_n rfl rfl ?_
    refine wq_getfield (v := .ref (b + 1)) rfl (bW_o0 hb) rfl ?_
    refine wq_iload_n rfl rfl ?_
    refine wq_iload_n rfl rfl ?_
    refine wn_iastore (g := (shA bbg 0 bsz)) (h' := bW b pre bsz bop (uN' ((shA bbg 0 bsz)) 0 x) (shA ben 0 bsz) suf) rfl (bW_a1 hb) (by omega) (by decide) (bW_t1 hb) ?_
    refine wq_aload_n rfl rfl ?_
    refine wq_getfield (v := .ref (b + 2)) rfl (bW_o0 hb) rfl ?_
    refine wq_iload_n rfl rfl ?_
    refine wq_iload_n rfl rfl ?_
    refine wn_iastore (g := (shA ben 0 bsz)) (h' := bW b pre bsz bop (uN' ((shA bbg 0 bsz)) 0 x) (uN' ((shA ben 0 bsz)) 0 y) suf) rfl (bW_a2 hb) (by omega) (by decide) (bW_t2 hb) ?_
    refine wq_aload_n rfl rfl ?_
    refine wq_dup rfl rfl ?_
    refine wq_getfield (v := .int (nI bsz)) rfl (bW_o0 hb) rfl ?_
    refine wq_iconst (v := nI 1) rfl (by decide) ?_
    refine wn_iadd rfl ?_
    refine wq_putfield (h' := bW b pre (bsz + 1) bop (uN' ((shA bbg 0 bsz)) 0 x) (uN' ((shA ben 0 bsz)) 0 y) suf) rfl (bW_o0 hb) rfl (bW_s0_2 hb) ?_
    refine wq_iload_n rfl rfl ?_
    refine wq_bipush (v := nI 99) rfl (by decide) ?_
    refine wn_ic_ne rfl (by omega) (by omega) (fun c114 => ?_) (fun c114 => ?_)
    · skip
      refine wq_vret rfl rfl ?_
      have q := hQ 0 hp hg (Or.inl rfl)
      rw [if_neg c114] at q
      exact q
    · skip
      refine wq_aload_n rfl rfl ?_
      refine wq_dup rfl rfl ?_
      refine wq_getfield (v := .int (nI bop)) rfl (bW_o0 hb) rfl ?_
      refine wq_iconst (v := nI 1) rfl (by decide) ?_
      refine wn_iadd rfl ?_
      refine wq_putfield (h' := bW b pre (bsz + 1) (bop + 1) (uN' ((shA bbg 0 bsz)) 0 x) (uN' ((shA ben 0 bsz)) 0 y) suf) rfl (bW_o0 hb) rfl (bW_s0_3 hb) ?_
      refine wq_vret rfl rfl ?_
      have q := hQ 0 hp hg (Or.inl rfl)
      rw [if_pos c114] at q
      exact q
  | succ p ih =>
    intro hp hg
    refine wq_iload_n rfl rfl ?_
    refine wn_if_le rfl (by omega) (fun c38 => absurd c38 (by omega)) (fun c38 => ?_)
    refine wq_aload_n rfl rfl ?_
    refine wq_iload_n rfl rfl ?_
    refine wq_iconst (v := nI 1) rfl (by decide) ?_
    refine wq_isub (v := nI p) rfl (nI_pred _) ?_
    refine wq_iload_n rfl rfl ?_
    refine wq_iload_n rfl rfl ?_
    refine wq_virt (b := b) (a := [.int (nI p), .int (nI x), .int (nI y)]) (rest := []) rfl rfl rfl rfl rfl (bW_o0 hb) ?_
    refine r_Bars_cmpS hb hn (by omega) (hv p (by omega)) hx hy (fun c47 => ?_) (fun c47 => ?_) (fun c47 => ?_)
    · skip
      show WP _ _ _ _ 50 [.ref b, .int (nI x), .int (nI y), .int (nI (p + 1))] [.int ((-1))] (bW b pre bsz bop (shA bbg (p + 1) bsz) (shA ben (p + 1) bsz) suf)
      refine wq_if_le rfl (fun c50 => ?_) (fun c50 => absurd c50 (by decide))
      refine wq_aload_n rfl rfl ?_
      refine wq_getfield (v := .ref (b + 1)) rfl (bW_o0 hb) rfl ?_
      refine wq_iload_n rfl rfl ?_
      refine wq_iload_n rfl rfl ?_
      refine wn_iastore (g := (shA bbg (p + 1) bsz)) (h' := bW b pre bsz bop (uN' ((shA bbg (p + 1) bsz)) (p + 1) x) (shA ben (p + 1) bsz) suf) rfl (bW_a1 hb) (by omega) (by decide) (bW_t1 hb) ?_
      refine wq_aload_n rfl rfl ?_
      refine wq_getfield (v := .ref (b + 2)) rfl (bW_o0 hb) rfl ?_
      refine wq_iload_n rfl rfl ?_
      refine wq_iload_n rfl rfl ?_
      refine wn_iastore (g := (shA ben (p + 1) bsz)) (h' := bW b pre bsz bop (uN' ((shA bbg (p + 1) bsz)) (p + 1) x) (uN' ((shA ben (p + 1) bsz)) (p + 1) y) suf) rfl (bW_a2 hb) (by omega) (by decide) (bW_t2 hb) ?_
      refine wq_aload_n rfl rfl ?_
      refine wq_dup rfl rfl ?_
      refine wq_getfield (v := .int (nI bsz)) rfl (bW_o0 hb) rfl ?_
      refine wq_iconst (v := nI 1) rfl (by decide) ?_
      refine wn_iadd rfl ?_
      refine wq_putfield (h' := bW b pre (bsz + 1) bop (uN' ((shA bbg (p + 1) bsz)) (p + 1) x) (uN' ((shA ben (p + 1) bsz)) (p + 1) y) suf) rfl (bW_o0 hb) rfl (bW_s0_2 hb) ?_
      refine wq_iload_n rfl rfl ?_
      refine wq_bipush (v := nI 99) rfl (by decide) ?_
      refine wn_ic_ne rfl (by omega) (by omega) (fun c114 => ?_) (fun c114 => ?_)
      · skip
        refine wq_vret rfl rfl ?_
        have hgt : gtP (bbg p) (ben p) x y = false := gtP_f c47
        have q := hQ (p + 1) hp hg (Or.inr (by rw [Nat.add_sub_cancel]; exact hgt))
        rw [if_neg c114] at q
        exact q
      · skip
        refine wq_aload_n rfl rfl ?_
        refine wq_dup rfl rfl ?_
        refine wq_getfield (v := .int (nI bop)) rfl (bW_o0 hb) rfl ?_
        refine wq_iconst (v := nI 1) rfl (by decide) ?_
        refine wn_iadd rfl ?_
        refine wq_putfield (h' := bW b pre (bsz + 1) (bop + 1) (uN' ((shA bbg (p + 1) bsz)) (p + 1) x) (uN' ((shA ben (p + 1) bsz)) (p + 1) y) suf) rfl (bW_o0 hb) rfl (bW_s0_3 hb) ?_
        refine wq_vret rfl rfl ?_
        have hgt : gtP (bbg p) (ben p) x y = false := gtP_f c47
        have q := hQ (p + 1) hp hg (Or.inr (by rw [Nat.add_sub_cancel]; exact hgt))
        rw [if_pos c114] at q
        exact q
    · skip
      show WP _ _ _ _ 50 [.ref b, .int (nI x), .int (nI y), .int (nI (p + 1))] [.int (nI 0)] (bW b pre bsz bop (shA bbg (p + 1) bsz) (shA ben (p + 1) bsz) suf)
      refine wq_if_le rfl (fun _ => ?_) (fun c => absurd c (by decide))
      refine wq_aload_n rfl rfl ?_
      refine wq_getfield (v := .ref (b + 1)) rfl (bW_o0 hb) rfl ?_
      refine wq_iload_n rfl rfl ?_
      refine wq_iload_n rfl rfl ?_
      refine wn_iastore (g := (shA bbg (p + 1) bsz)) (h' := bW b pre bsz bop (uN' ((shA bbg (p + 1) bsz)) (p + 1) x) (shA ben (p + 1) bsz) suf) rfl (bW_a1 hb) (by omega) (by decide) (bW_t1 hb) ?_
      refine wq_aload_n rfl rfl ?_
      refine wq_getfield (v := .ref (b + 2)) rfl (bW_o0 hb) rfl ?_
      refine wq_iload_n rfl rfl ?_
      refine wq_iload_n rfl rfl ?_
      refine wn_iastore (g := (shA ben (p + 1) bsz)) (h' := bW b pre bsz bop (uN' ((shA bbg (p + 1) bsz)) (p + 1) x) (uN' ((shA ben (p + 1) bsz)) (p + 1) y) suf) rfl (bW_a2 hb) (by omega) (by decide) (bW_t2 hb) ?_
      refine wq_aload_n rfl rfl ?_
      refine wq_dup rfl rfl ?_
      refine wq_getfield (v := .int (nI bsz)) rfl (bW_o0 hb) rfl ?_
      refine wq_iconst (v := nI 1) rfl (by decide) ?_
      refine wn_iadd rfl ?_
      refine wq_putfield (h' := bW b pre (bsz + 1) bop (uN' ((shA bbg (p + 1) bsz)) (p + 1) x) (uN' ((shA ben (p + 1) bsz)) (p + 1) y) suf) rfl (bW_o0 hb) rfl (bW_s0_2 hb) ?_
      refine wq_iload_n rfl rfl ?_
      refine wq_bipush (v := nI 99) rfl (by decide) ?_
      refine wn_ic_ne rfl (by omega) (by omega) (fun c114 => ?_) (fun c114 => ?_)
      · skip
        refine wq_vret rfl rfl ?_
        have hgt : gtP (bbg p) (ben p) x y = false := gtP_f c47
        have q := hQ (p + 1) hp hg (Or.inr (by rw [Nat.add_sub_cancel]; exact hgt))
        rw [if_neg c114] at q
        exact q
      · skip
        refine wq_aload_n rfl rfl ?_
        refine wq_dup rfl rfl ?_
        refine wq_getfield (v := .int (nI bop)) rfl (bW_o0 hb) rfl ?_
        refine wq_iconst (v := nI 1) rfl (by decide) ?_
        refine wn_iadd rfl ?_
        refine wq_putfield (h' := bW b pre (bsz + 1) (bop + 1) (uN' ((shA bbg (p + 1) bsz)) (p + 1) x) (uN' ((shA ben (p + 1) bsz)) (p + 1) y) suf) rfl (bW_o0 hb) rfl (bW_s0_3 hb) ?_
        refine wq_vret rfl rfl ?_
        have hgt : gtP (bbg p) (ben p) x y = false := gtP_f c47
        have q := hQ (p + 1) hp hg (Or.inr (by rw [Nat.add_sub_cancel]; exact hgt))
        rw [if_pos c114] at q
        exact q
    · skip
      show WP _ _ _ _ 50 [.ref b, .int (nI x), .int (nI y), .int (nI (p + 1))] [.int (nI 1)] (bW b pre bsz bop (shA bbg (p + 1) bsz) (shA ben (p + 1) bsz) suf)
      refine wq_if_le rfl (fun c => absurd c (by decide)) (fun _ => ?_)
      refine wq_aload_n rfl rfl ?_
      refine wq_getfield (v := .ref (b + 1)) rfl (bW_o0 hb) rfl ?_
      refine wq_iload_n rfl rfl ?_
      refine wq_aload_n rfl rfl ?_
      refine wq_getfield (v := .ref (b + 1)) rfl (bW_o0 hb) rfl ?_
      refine wq_iload_n rfl rfl ?_
      refine wq_iconst (v := nI 1) rfl (by decide) ?_
      refine wq_isub (v := nI p) rfl (nI_pred _) ?_
      refine wn_iaload (g := (shA bbg (p + 1) bsz)) rfl (bW_a1 hb) (by omega) (by decide) ?_
      refine wn_iastore (g := (shA bbg (p + 1) bsz)) (h' := bW b pre bsz bop (uN' ((shA bbg (p + 1) bsz)) (p + 1) (((shA bbg (p + 1) bsz)) p)) (shA ben (p + 1) bsz) suf) rfl (bW_a1 hb) (by omega) (by decide) (bW_t1 hb) ?_
      refine wq_aload_n rfl rfl ?_
      refine wq_getfield (v := .ref (b + 2)) rfl (bW_o0 hb) rfl ?_
      refine wq_iload_n rfl rfl ?_
      refine wq_aload_n rfl rfl ?_
      refine wq_getfield (v := .ref (b + 2)) rfl (bW_o0 hb) rfl ?_
      refine wq_iload_n rfl rfl ?_
      refine wq_iconst (v := nI 1) rfl (by decide) ?_
      refine wq_isub (v := nI p) rfl (nI_pred _) ?_
      refine wn_iaload (g := (shA ben (p + 1) bsz)) rfl (bW_a2 hb) (by omega) (by decide) ?_
      refine wn_iastore (g := (shA ben (p + 1) bsz)) (h' := bW b pre bsz bop (uN' ((shA bbg (p + 1) bsz)) (p + 1) (((shA bbg (p + 1) bsz)) p)) (uN' ((shA ben (p + 1) bsz)) (p + 1) (((shA ben (p + 1) bsz)) p)) suf) rfl (bW_a2 hb) (by omega) (by decide) (bW_t2 hb) ?_
      refine wn_dec (lv' := [.ref b, .int (nI x), .int (nI y), .int (nI p)]) rfl rfl rfl ?_
      refine wq_goto rfl ?_
      have hgt : gtP (bbg p) (ben p) x y = true := gtP_iff.mpr c47
      rw [shA_s hp (shA_lo (Nat.le_succ p)), shA_s hp (shA_lo (Nat.le_succ p))]
      exact ih (by omega) (fun i h1 h2 => by
        by_cases e : i = p
        · rw [e]; exact hgt
        · exact hg i (by omega) h2)
theorem r_Bars_add {d b : Nat} {pre suf : mH} {bsz : Nat} {bop : Nat} {bbg : Nat → Nat} {ben : Nat → Nat} {Q : Option Value → mH → Prop} (hb : pre.length = b) {x y : Nat} (hn : bsz < 40) (hv : ∀ i, i < 40 → bbg i < 2 ^ 31 ∧ ben i < 2 ^ 31) (hx : x < 2 ^ 31) (hy : y < 2 ^ 31) (hQ : ∀ p, p ≤ bsz → (∀ i, p ≤ i → i < bsz → gtP (bbg i) (ben i) x y = true) → (p = 0 ∨ gtP (bbg (p - 1)) (ben (p - 1)) x y = false) → Q none (bW b pre (bsz + 1) (if y = 99 then bop + 1 else bop) (inA bbg p bsz x) (inA ben p bsz y) suf)) : Rn mprog (d + 3) n_Bars_add [.ref b, .int (nI x), .int (nI y)] (bW b pre bsz bop bbg ben suf) Q := by
  refine Rn.in rfl rfl rfl ?_
  show WP _ _ _ _ 0 [.ref b, .int (nI x), .int (nI y), .long 0] [] (bW b pre bsz bop bbg ben suf)
  refine wq_aload_n rfl rfl ?_
  refine wq_getfield (v := .int (nI bsz)) rfl (bW_o0 hb) rfl ?_
  refine wn_if_lt rfl (by omega) ?_
  refine wq_aload_n rfl rfl ?_
  refine wq_getfield (v := .int (nI bsz)) rfl (bW_o0 hb) rfl ?_
  refine wq_aload_n rfl rfl ?_
  refine wq_getfield (v := .ref (b + 1)) rfl (bW_o0 hb) rfl ?_
  refine wq_alen (v := nI 40) rfl (bW_a1 hb) rfl rfl ?_
  refine wn_ic_ge rfl (by omega) (by omega) (fun c16 => absurd c16 (by omega)) (fun c16 => ?_)
  refine wq_aload_n rfl rfl ?_
  refine wq_getfield (v := .int (nI bsz)) rfl (bW_o0 hb) rfl ?_
  refine wq_aload_n rfl rfl ?_
  refine wq_getfield (v := .ref (b + 2)) rfl (bW_o0 hb) rfl ?_
  refine wq_alen (v := nI 40) rfl (bW_a2 hb) rfl rfl ?_
  refine wn_ic_lt rfl (by omega) (by omega) (fun c28 => ?_) (fun c28 => absurd c28 (by omega))
  refine wq_aload_n rfl rfl ?_
  refine wq_getfield (v := .int (nI bsz)) rfl (bW_o0 hb) rfl ?_
  refine wq_istore_n (lv' := [.ref b, .int (nI x), .int (nI y), .int (nI bsz)]) rfl rfl rfl ?_
  have q := l_Bars_add (d := d) hb hn hv hx hy hQ bsz (Nat.le_refl _) (fun i h1 h2 => absurd h2 (by omega))
  rw [shA_0, shA_0] at q
  exact q
end
section
/-! Row -/
theorem r_Row_empty {d b : Nat} {pre suf : mH} {rn : Nat} {ra : Nat → Nat} {Q : Option Value → mH → Prop} (hb : pre.length = b) (hQ : Q none (rW b pre 0 ra suf)) : Rn mprog (d + 1) n_Row_empty [.ref b] (rW b pre rn ra suf) Q := by
  refine Rn.in rfl rfl rfl ?_
  show WP _ _ _ _ 0 [.ref b] [] (rW b pre rn ra suf)
  refine wq_aload_n rfl rfl ?_
  refine wq_iconst (v := nI 0) rfl (by decide) ?_
  refine wq_putfield (h' := rW b pre 0 ra suf) rfl (rW_o0 hb) rfl (rW_s0_1 hb) ?_
  refine wq_vret rfl rfl ?_
  exact hQ
theorem r_Row_add {d b : Nat} {pre suf : mH} {rn : Nat} {ra : Nat → Nat} {Q : Option Value → mH → Prop} (hb : pre.length = b) {v : Nat} (hn : rn < 40) (hQ : Q none (rW b pre (rn + 1) (uN' ra rn v) suf)) : Rn mprog (d + 1) n_Row_add [.ref b, .int (nI v)] (rW b pre rn ra suf) Q := by
  refine Rn.in rfl rfl rfl ?_
  show WP _ _ _ _ 0 [.ref b, .int (nI v)] [] (rW b pre rn ra suf)
  refine wq_aload_n rfl rfl ?_
  refine wq_getfield (v := .int (nI rn)) rfl (rW_o0 hb) rfl ?_
  refine wn_if_lt rfl (by omega) ?_
  refine wq_aload_n rfl rfl ?_
  refine wq_getfield (v := .int (nI rn)) rfl (rW_o0 hb) rfl ?_
  refine wq_aload_n rfl rfl ?_
  refine wq_getfield (v := .ref (b + 1)) rfl (rW_o0 hb) rfl ?_
  refine wq_alen (v := nI 40) rfl (rW_a1 hb) rfl rfl ?_
  refine wn_ic_ge rfl (by omega) (by omega) (fun c16 => absurd c16 (by omega)) (fun c16 => ?_)
  refine wq_aload_n rfl rfl ?_
  refine wq_getfield (v := .ref (b + 1)) rfl (rW_o0 hb) rfl ?_
  refine wq_aload_n rfl rfl ?_
  refine wq_getfield (v := .int (nI rn)) rfl (rW_o0 hb) rfl ?_
  refine wq_iload_n rfl rfl ?_
  refine wn_iastore (g := ra) (h' := rW b pre rn (uN' ra rn v) suf) rfl (rW_a1 hb) (by omega) (by decide) (rW_t1 hb) ?_
  refine wq_aload_n rfl rfl ?_
  refine wq_dup rfl rfl ?_
  refine wq_getfield (v := .int (nI rn)) rfl (rW_o0 hb) rfl ?_
  refine wq_iconst (v := nI 1) rfl (by decide) ?_
  refine wn_iadd rfl ?_
  refine wq_putfield (h' := rW b pre (rn + 1) (uN' ra rn v) suf) rfl (rW_o0 hb) rfl (rW_s0_1 hb) ?_
  refine wq_vret rfl rfl ?_
  exact hQ
theorem r_Row_removeLast {d b : Nat} {pre suf : mH} {rn : Nat} {ra : Nat → Nat} {Q : Option Value → mH → Prop} (hb : pre.length = b) (hn : 0 < rn) (hl : rn ≤ 40) (hQ : Q none (rW b pre (rn - 1) ra suf)) : Rn mprog (d + 1) n_Row_removeLast [.ref b] (rW b pre rn ra suf) Q := by
  refine Rn.in rfl rfl rfl ?_
  show WP _ _ _ _ 0 [.ref b] [] (rW b pre rn ra suf)
  refine wq_aload_n rfl rfl ?_
  refine wq_getfield (v := .int (nI rn)) rfl (rW_o0 hb) rfl ?_
  refine wn_if_le rfl (by omega) (fun c4 => absurd c4 (by omega)) (fun c4 => ?_)
  refine wq_aload_n rfl rfl ?_
  refine wq_dup rfl rfl ?_
  refine wq_getfield (v := .int (nI rn)) rfl (rW_o0 hb) rfl ?_
  refine wq_iconst (v := nI 1) rfl (by decide) ?_
  refine wn_isub rfl (by omega) ?_
  refine wq_putfield (h' := rW b pre (rn - 1) ra suf) rfl (rW_o0 hb) rfl (rW_s0_1 hb) ?_
  refine wq_vret rfl rfl ?_
  exact hQ
theorem r_Row_swap {d b : Nat} {pre suf : mH} {rn : Nat} {ra : Nat → Nat} {Q : Option Value → mH → Prop} (hb : pre.length = b) {k : Nat} (h1 : 1 ≤ k) (h2 : k < rn) (hl : rn ≤ 40) (hQ : Q none (rW b pre rn (uN' (uN' ra (k - 1) (ra k)) k (ra (k - 1))) suf)) : Rn mprog (d + 1) n_Row_swapWithNext [.ref b, .int (nI k)] (rW b pre rn ra suf) Q := by
  refine Rn.in rfl rfl rfl ?_
  show WP _ _ _ _ 0 [.ref b, .int (nI k), .long 0] [] (rW b pre rn ra suf)
  refine wq_iload_n rfl rfl ?_
  refine wq_iconst (v := nI 1) rfl (by decide) ?_
  refine wn_ic_lt rfl (by omega) (by omega) (fun c2 => absurd c2 (by omega)) (fun c2 => ?_)
  refine wq_iload_n rfl rfl ?_
  refine wq_aload_n rfl rfl ?_
  refine wq_getfield (v := .int (nI rn)) rfl (rW_o0 hb) rfl ?_
  refine wn_ic_ge rfl (by omega) (by omega) (fun c10 => absurd c10 (by omega)) (fun c10 => ?_)
  refine wq_iload_n rfl rfl ?_
  refine wq_aload_n rfl rfl ?_
  refine wq_getfield (v := .ref (b + 1)) rfl (rW_o0 hb) rfl ?_
  refine wq_alen (v := nI 40) rfl (rW_a1 hb) rfl rfl ?_
  refine wn_ic_ge rfl (by omega) (by omega) (fun c19 => absurd c19 (by omega)) (fun c19 => ?_)
  refine wq_aload_n rfl rfl ?_
  refine wq_getfield (v := .ref (b + 1)) rfl (rW_o0 hb) rfl ?_
  refine wq_iload_n rfl rfl ?_
  refine wq_iconst (v := nI 1) rfl (by decide) ?_
  refine wn_isub rfl (by omega) ?_
  refine wn_iaload (g := ra) rfl (rW_a1 hb) (by omega) (by decide) ?_
  refine wq_istore_n (lv' := [.ref b, .int (nI k), .int (nI (ra (k - 1)))]) rfl rfl rfl ?_
  refine wq_aload_n rfl rfl ?_
  refine wq_getfield (v := .ref (b + 1)) rfl (rW_o0 hb) rfl ?_
  refine wq_iload_n rfl rfl ?_
  refine wq_iconst (v := nI 1) rfl (by decide) ?_
  refine wn_isub rfl (by omega) ?_
  refine wq_aload_n rfl rfl ?_
  refine wq_getfield (v := .ref (b + 1)) rfl (rW_o0 hb) rfl ?_
  refine wq_iload_n rfl rfl ?_
  refine wn_iaload (g := ra) rfl (rW_a1 hb) (by omega) (by decide) ?_
  refine wn_iastore (g := ra) (h' := rW b pre rn (uN' ra (k - 1) (ra k)) suf) rfl (rW_a1 hb) (by omega) (by decide) (rW_t1 hb) ?_
  refine wq_aload_n rfl rfl ?_
  refine wq_getfield (v := .ref (b + 1)) rfl (rW_o0 hb) rfl ?_
  refine wq_iload_n rfl rfl ?_
  refine wq_iload_n rfl rfl ?_
  refine wn_iastore (g := (uN' ra (k - 1) (ra k))) (h' := rW b pre rn (uN' ((uN' ra (k - 1) (ra k))) k (ra (k - 1))) suf) rfl (rW_a1 hb) (by omega) (by decide) (rW_t1 hb) ?_
  refine wq_vret rfl rfl ?_
  exact hQ
theorem r_Row_size {d c rn : Nat} {ra : Nat → Nat} {h : mH} {Q : Option Value → mH → Prop} (ho : h[c]? = some (.inr (3, [.ref (c + 1), .int (nI rn)]))) (hQ : Q (some (.int (nI rn))) h) : Rn mprog (d + 1) n_Row_size [.ref c] h Q := by
  refine Rn.in rfl rfl rfl ?_
  show WP _ _ _ _ 0 [.ref c] [] h
  refine wq_aload_n rfl rfl ?_
  refine wq_getfield (v := .int (nI rn)) rfl ho rfl ?_
  refine wq_iret rfl trivial ?_
  exact hQ
theorem r_Row_actAt {d c rn : Nat} {ra : Nat → Nat} {h : mH} {Q : Option Value → mH → Prop} (ho : h[c]? = some (.inr (3, [.ref (c + 1), .int (nI rn)]))) (h1 : h[c + 1]? = some (.inl (0, 40, .inl (nA ra)))) {k : Nat} (hk : 1 ≤ k) (hk2 : k ≤ rn) (hn : rn ≤ 40) (hQ : Q (some (.int (nI (ra (k - 1))))) h) : Rn mprog (d + 1) n_Row_actAt [.ref c, .int (nI k)] h Q := by
  refine Rn.in rfl rfl rfl ?_
  show WP _ _ _ _ 0 [.ref c, .int (nI k)] [] h
  refine wq_iload_n rfl rfl ?_
  refine wq_iconst (v := nI 1) rfl (by decide) ?_
  refine wn_ic_lt rfl (by omega) (by omega) (fun c2 => absurd c2 (by omega)) (fun c2 => ?_)
  refine wq_iload_n rfl rfl ?_
  refine wq_aload_n rfl rfl ?_
  refine wq_getfield (v := .int (nI rn)) rfl ho rfl ?_
  refine wn_ic_gt rfl (by omega) (by omega) (fun c10 => absurd c10 (by omega)) (fun c10 => ?_)
  refine wq_iload_n rfl rfl ?_
  refine wq_aload_n rfl rfl ?_
  refine wq_getfield (v := .ref (c + 1)) rfl ho rfl ?_
  refine wq_alen (v := nI 40) rfl h1 rfl rfl ?_
  refine wn_ic_gt rfl (by omega) (by omega) (fun c19 => absurd c19 (by omega)) (fun c19 => ?_)
  refine wq_aload_n rfl rfl ?_
  refine wq_getfield (v := .ref (c + 1)) rfl ho rfl ?_
  refine wq_iload_n rfl rfl ?_
  refine wq_iconst (v := nI 1) rfl (by decide) ?_
  refine wn_isub rfl (by omega) ?_
  refine wn_iaload (g := ra) rfl h1 (by omega) (by decide) ?_
  refine wq_goto rfl ?_
  refine wq_iret rfl trivial ?_
  exact hQ
def cpA (g r : Nat → Nat) (i : Nat) : Nat → Nat := fun j => if j < i then g j else r j
theorem cpA_0 (g r : Nat → Nat) : cpA g r 0 = r := by
  funext j
  unfold cpA
  rw [if_neg (Nat.not_lt_zero j)]
theorem cpA_s (g r : Nat → Nat) (i : Nat) : uN' (cpA g r i) i (g i) = cpA g r (i + 1) := by
  funext j
  unfold uN' cpA
  by_cases h : j = i
  · rw [if_pos h, if_pos (by omega), h]
  · rw [if_neg h]
    by_cases h2 : j < i
    · rw [if_pos h2, if_pos (by omega)]
    · rw [if_neg h2, if_neg (by omega)]
theorem l_Row_copy {d b : Nat} {pre suf : mH} {rn : Nat} {ra : Nat → Nat} {Q : Option Value → mH → Prop} (hb : pre.length = b) {c m : Nat} {g : Nat → Nat} (hm : m ≤ 40) (hc : ∀ x y, (rW b pre x y suf)[c]? = some (.inr (3, [.ref (c + 1), .int (nI m)]))) (hc1 : ∀ x y, (rW b pre x y suf)[c + 1]? = some (.inl (0, 40, .inl (nA g)))) (hQ : Q none (rW b pre m (cpA g ra m) suf)) : ∀ (n i : Nat), i + n = m → WP (Rn mprog (d + 1)) k_Row_copy none Q 6 [.ref b, .ref c, .int (nI (i + 1))] [] (rW b pre i (cpA g ra i) suf) := by
  intro n
  induction n with
  | zero =>
    intro i hi
    have e : i = m := by omega
    subst e
    refine wq_iload_n rfl rfl ?_
    refine wq_aload_n rfl rfl ?_
    refine wq_getfield (v := .int (nI i)) rfl (hc _ _) rfl ?_
    refine wn_ic_gt rfl (by omega) (by omega) (fun c11 => ?_) (fun c11 => absurd c11 (by omega))
    refine wq_vret rfl rfl ?_
    exact hQ
  | succ n ih =>
    intro i hi
    refine wq_iload_n rfl rfl ?_
    refine wq_aload_n rfl rfl ?_
    refine wq_getfield (v := .int (nI m)) rfl (hc _ _) rfl ?_
    refine wn_ic_gt rfl (by omega) (by omega) (fun c11 => absurd c11 (by omega)) (fun c11 => ?_)
    refine wq_aload_n rfl rfl ?_
    refine wq_aload_n rfl rfl ?_
    refine wq_iload_n rfl rfl ?_
    refine wq_virt (b := c) (a := [.int (nI (i + 1))]) (rest := [.ref b]) rfl rfl rfl rfl rfl (hc _ _) ?_
    refine r_Row_actAt (hc _ _) (hc1 _ _) (by omega) (by omega) hm ?_
    show WP _ _ _ _ 20 [.ref b, .ref c, .int (nI (i + 1))] [.int (nI (g i)), .ref b] (rW b pre i (cpA g ra i) suf)
    refine wq_virt (b := b) (a := [.int (nI (g i))]) (rest := []) rfl rfl rfl rfl rfl (rW_o0 hb) ?_
    refine r_Row_add hb (by omega) ?_
    show WP _ _ _ _ 23 [.ref b, .ref c, .int (nI (i + 1))] [] (rW b pre (i + 1) (uN' (cpA g ra i) i (g i)) suf)
    refine wn_inc (lv' := [.ref b, .ref c, .int (nI (i + 1 + 1))]) rfl rfl rfl ?_
    refine wq_goto rfl ?_
    rw [cpA_s]
    exact ih (i + 1) (by omega)
theorem r_Row_copy {d b : Nat} {pre suf : mH} {rn : Nat} {ra : Nat → Nat} {Q : Option Value → mH → Prop} (hb : pre.length = b) {c m : Nat} {g : Nat → Nat} (hm : m ≤ 40) (hc : ∀ x y, (rW b pre x y suf)[c]? = some (.inr (3, [.ref (c + 1), .int (nI m)]))) (hc1 : ∀ x y, (rW b pre x y suf)[c + 1]? = some (.inl (0, 40, .inl (nA g)))) (hQ : Q none (rW b pre m (cpA g ra m) suf)) : Rn mprog (d + 2) n_Row_copy [.ref b, .ref c] (rW b pre rn ra suf) Q := by
  refine Rn.in rfl rfl rfl ?_
  show WP _ _ _ _ 0 [.ref b, .ref c, .long 0] [] (rW b pre rn ra suf)
  refine wq_aload_n rfl rfl ?_
  refine wq_virt (b := b) (a := []) (rest := []) rfl rfl rfl rfl rfl (rW_o0 hb) ?_
  refine r_Row_empty hb ?_
  show WP _ _ _ _ 4 [.ref b, .ref c, .long 0] [] (rW b pre 0 ra suf)
  refine wq_iconst (v := nI 1) rfl (by decide) ?_
  refine wq_istore_n (lv' := [.ref b, .ref c, .int (nI 1)]) rfl rfl rfl ?_
  have q := l_Row_copy (d := d) (rn := 0) hb hm hc hc1 hQ m 0 (by omega)
  rw [cpA_0] at q
  exact q
theorem r_Net_pieceOf_no {d b : Nat} {pre suf : mH} {pts : Nat} {edg : Nat} {nr : Nat → Nat} {Q : Option Value → mH → Prop} (hb : pre.length = b) {p0 : Nat} (hp0 : p0 < 9) (hpt : pts < 512) (hin : pts.testBit p0 = false) (hQ : Q (some (.int (nI 0))) (nW b pre pts edg nr suf)) : Rn mprog (d + 4) n_Net_pieceOf [.ref b, .int (nI p0)] (nW b pre pts edg nr suf) Q := by
  refine Rn.in rfl rfl rfl ?_
  show WP _ _ _ _ 0 [.ref b, .int (nI p0), .long 0, .long 0, .long 0, .long 0] [] (nW b pre pts edg nr suf)
  refine wq_aload_n rfl rfl ?_
  refine wq_iload_n rfl rfl ?_
  refine wq_virt (b := b) (a := [.int (nI p0)]) (rest := []) rfl rfl rfl rfl rfl (nW_o0 hb) ?_
  refine r_Net_has hb (by omega) (by omega) (fun c2 => absurd c2 (by rw [hin]; decide)) (fun c2 => ?_)
  show WP _ _ _ _ 5 [.ref b, .int (nI p0), .long 0, .long 0, .long 0, .long 0] [.int (nI 0)] (nW b pre pts edg nr suf)
  refine wq_if_ne rfl (fun c => absurd c (by decide)) (fun _ => ?_)
  refine wq_iconst (v := nI 0) rfl (by decide) ?_
  refine wq_iret rfl trivial ?_
  exact hQ
def sW (b : Nat) (pre : mH) (pts : Nat) (edg : Nat) (nr : Nat → Nat) (rt : Nat → Nat) (sc : Nat → Nat → Nat) (wf : Nat → Nat) (ws : Nat → Nat) (bsz : Nat) (bop : Nat) (bbg : Nat → Nat) (ben : Nat → Nat) (suf : mH) : mH := pre ++ (.inr (5, [.ref (b + 1), .ref (b + 3), .ref (b + 8)]) :: .inr (2, [.ref (b + 2), .int (nI pts), .int (nI edg)]) :: .inl (0, 9, .inl (nA nr)) :: .inr (1, [.ref (b + 4), .ref (b + 5), .ref (b + 6), .ref (b + 7)]) :: .inl (0, 9, .inl (nA rt)) :: .inl (0, 81, .inl (nA (K2 sc))) :: .inl (0, 9, .inl (nA wf)) :: .inl (0, 9, .inl (nA ws)) :: .inr (0, [.ref (b + 9), .ref (b + 10), .int (nI bsz), .int (nI bop)]) :: .inl (0, 40, .inl (nA bbg)) :: .inl (0, 40, .inl (nA ben)) :: suf)
theorem sW_o0 {b : Nat} {pre suf : mH} {pts : Nat} {edg : Nat} {nr : Nat → Nat} {rt : Nat → Nat} {sc : Nat → Nat → Nat} {wf : Nat → Nat} {ws : Nat → Nat} {bsz : Nat} {bop : Nat} {bbg : Nat → Nat} {ben : Nat → Nat} (hb : pre.length = b) : (sW b pre pts edg nr rt sc wf ws bsz bop bbg ben suf)[b]? = some (.inr (5, [.ref (b + 1), .ref (b + 3), .ref (b + 8)])) := ap_get0 hb
theorem sW_o1 {b : Nat} {pre suf : mH} {pts : Nat} {edg : Nat} {nr : Nat → Nat} {rt : Nat → Nat} {sc : Nat → Nat → Nat} {wf : Nat → Nat} {ws : Nat → Nat} {bsz : Nat} {bop : Nat} {bbg : Nat → Nat} {ben : Nat → Nat} (hb : pre.length = b) : (sW b pre pts edg nr rt sc wf ws bsz bop bbg ben suf)[b + 1]? = some (.inr (2, [.ref (b + 2), .int (nI pts), .int (nI edg)])) := ap_get hb
theorem sW_s1_1 {b : Nat} {pre suf : mH} {pts : Nat} {edg : Nat} {nr : Nat → Nat} {rt : Nat → Nat} {sc : Nat → Nat → Nat} {wf : Nat → Nat} {ws : Nat → Nat} {bsz : Nat} {bop : Nat} {bbg : Nat → Nat} {ben : Nat → Nat} (hb : pre.length = b) {v : Nat} : (sW b pre pts edg nr rt sc wf ws bsz bop bbg ben suf).set (b + 1) (.inr (2, [.ref (b + 2), .int (nI pts), .int (nI edg)].set 1 (.int (nI v)))) = sW b pre v edg nr rt sc wf ws bsz bop bbg ben suf := ap_set hb
theorem sW_s1_2 {b : Nat} {pre suf : mH} {pts : Nat} {edg : Nat} {nr : Nat → Nat} {rt : Nat → Nat} {sc : Nat → Nat → Nat} {wf : Nat → Nat} {ws : Nat → Nat} {bsz : Nat} {bop : Nat} {bbg : Nat → Nat} {ben : Nat → Nat} (hb : pre.length = b) {v : Nat} : (sW b pre pts edg nr rt sc wf ws bsz bop bbg ben suf).set (b + 1) (.inr (2, [.ref (b + 2), .int (nI pts), .int (nI edg)].set 2 (.int (nI v)))) = sW b pre pts v nr rt sc wf ws bsz bop bbg ben suf := ap_set hb
theorem sW_a2 {b : Nat} {pre suf : mH} {pts : Nat} {edg : Nat} {nr : Nat → Nat} {rt : Nat → Nat} {sc : Nat → Nat → Nat} {wf : Nat → Nat} {ws : Nat → Nat} {bsz : Nat} {bop : Nat} {bbg : Nat → Nat} {ben : Nat → Nat} (hb : pre.length = b) : (sW b pre pts edg nr rt sc wf ws bsz bop bbg ben suf)[b + 2]? = some (.inl (0, 9, .inl (nA nr))) := ap_get hb
theorem sW_t2 {b : Nat} {pre suf : mH} {pts : Nat} {edg : Nat} {nr : Nat → Nat} {rt : Nat → Nat} {sc : Nat → Nat → Nat} {wf : Nat → Nat} {ws : Nat → Nat} {bsz : Nat} {bop : Nat} {bbg : Nat → Nat} {ben : Nat → Nat} (hb : pre.length = b) {g : Nat → Nat} : (sW b pre pts edg nr rt sc wf ws bsz bop bbg ben suf).set (b + 2) (.inl (0, 9, .inl (nA g))) = sW b pre pts edg g rt sc wf ws bsz bop bbg ben suf := ap_set hb
theorem sW_o3 {b : Nat} {pre suf : mH} {pts : Nat} {edg : Nat} {nr : Nat → Nat} {rt : Nat → Nat} {sc : Nat → Nat → Nat} {wf : Nat → Nat} {ws : Nat → Nat} {bsz : Nat} {bop : Nat} {bbg : Nat → Nat} {ben : Nat → Nat} (hb : pre.length = b) : (sW b pre pts edg nr rt sc wf ws bsz bop bbg ben suf)[b + 3]? = some (.inr (1, [.ref (b + 4), .ref (b + 5), .ref (b + 6), .ref (b + 7)])) := ap_get hb
theorem sW_a4 {b : Nat} {pre suf : mH} {pts : Nat} {edg : Nat} {nr : Nat → Nat} {rt : Nat → Nat} {sc : Nat → Nat → Nat} {wf : Nat → Nat} {ws : Nat → Nat} {bsz : Nat} {bop : Nat} {bbg : Nat → Nat} {ben : Nat → Nat} (hb : pre.length = b) : (sW b pre pts edg nr rt sc wf ws bsz bop bbg ben suf)[b + 4]? = some (.inl (0, 9, .inl (nA rt))) := ap_get hb
theorem sW_t4 {b : Nat} {pre suf : mH} {pts : Nat} {edg : Nat} {nr : Nat → Nat} {rt : Nat → Nat} {sc : Nat → Nat → Nat} {wf : Nat → Nat} {ws : Nat → Nat} {bsz : Nat} {bop : Nat} {bbg : Nat → Nat} {ben : Nat → Nat} (hb : pre.length = b) {g : Nat → Nat} : (sW b pre pts edg nr rt sc wf ws bsz bop bbg ben suf).set (b + 4) (.inl (0, 9, .inl (nA g))) = sW b pre pts edg nr g sc wf ws bsz bop bbg ben suf := ap_set hb
theorem sW_a5 {b : Nat} {pre suf : mH} {pts : Nat} {edg : Nat} {nr : Nat → Nat} {rt : Nat → Nat} {sc : Nat → Nat → Nat} {wf : Nat → Nat} {ws : Nat → Nat} {bsz : Nat} {bop : Nat} {bbg : Nat → Nat} {ben : Nat → Nat} (hb : pre.length = b) : (sW b pre pts edg nr rt sc wf ws bsz bop bbg ben suf)[b + 5]? = some (.inl (0, 81, .inl (nA (K2 sc)))) := ap_get hb
theorem sW_a6 {b : Nat} {pre suf : mH} {pts : Nat} {edg : Nat} {nr : Nat → Nat} {rt : Nat → Nat} {sc : Nat → Nat → Nat} {wf : Nat → Nat} {ws : Nat → Nat} {bsz : Nat} {bop : Nat} {bbg : Nat → Nat} {ben : Nat → Nat} (hb : pre.length = b) : (sW b pre pts edg nr rt sc wf ws bsz bop bbg ben suf)[b + 6]? = some (.inl (0, 9, .inl (nA wf))) := ap_get hb
theorem sW_t6 {b : Nat} {pre suf : mH} {pts : Nat} {edg : Nat} {nr : Nat → Nat} {rt : Nat → Nat} {sc : Nat → Nat → Nat} {wf : Nat → Nat} {ws : Nat → Nat} {bsz : Nat} {bop : Nat} {bbg : Nat → Nat} {ben : Nat → Nat} (hb : pre.length = b) {g : Nat → Nat} : (sW b pre pts edg nr rt sc wf ws bsz bop bbg ben suf).set (b + 6) (.inl (0, 9, .inl (nA g))) = sW b pre pts edg nr rt sc g ws bsz bop bbg ben suf := ap_set hb
theorem sW_a7 {b : Nat} {pre suf : mH} {pts : Nat} {edg : Nat} {nr : Nat → Nat} {rt : Nat → Nat} {sc : Nat → Nat → Nat} {wf : Nat → Nat} {ws : Nat → Nat} {bsz : Nat} {bop : Nat} {bbg : Nat → Nat} {ben : Nat → Nat} (hb : pre.length = b) : (sW b pre pts edg nr rt sc wf ws bsz bop bbg ben suf)[b + 7]? = some (.inl (0, 9, .inl (nA ws))) := ap_get hb
theorem sW_t7 {b : Nat} {pre suf : mH} {pts : Nat} {edg : Nat} {nr : Nat → Nat} {rt : Nat → Nat} {sc : Nat → Nat → Nat} {wf : Nat → Nat} {ws : Nat → Nat} {bsz : Nat} {bop : Nat} {bbg : Nat → Nat} {ben : Nat → Nat} (hb : pre.length = b) {g : Nat → Nat} : (sW b pre pts edg nr rt sc wf ws bsz bop bbg ben suf).set (b + 7) (.inl (0, 9, .inl (nA g))) = sW b pre pts edg nr rt sc wf g bsz bop bbg ben suf := ap_set hb
theorem sW_o8 {b : Nat} {pre suf : mH} {pts : Nat} {edg : Nat} {nr : Nat → Nat} {rt : Nat → Nat} {sc : Nat → Nat → Nat} {wf : Nat → Nat} {ws : Nat → Nat} {bsz : Nat} {bop : Nat} {bbg : Nat → Nat} {ben : Nat → Nat} (hb : pre.length = b) : (sW b pre pts edg nr rt sc wf ws bsz bop bbg ben suf)[b + 8]? = some (.inr (0, [.ref (b + 9), .ref (b + 10), .int (nI bsz), .int (nI bop)])) := ap_get hb
theorem sW_s8_2 {b : Nat} {pre suf : mH} {pts : Nat} {edg : Nat} {nr : Nat → Nat} {rt : Nat → Nat} {sc : Nat → Nat → Nat} {wf : Nat → Nat} {ws : Nat → Nat} {bsz : Nat} {bop : Nat} {bbg : Nat → Nat} {ben : Nat → Nat} (hb : pre.length = b) {v : Nat} : (sW b pre pts edg nr rt sc wf ws bsz bop bbg ben suf).set (b + 8) (.inr (0, [.ref (b + 9), .ref (b + 10), .int (nI bsz), .int (nI bop)].set 2 (.int (nI v)))) = sW b pre pts edg nr rt sc wf ws v bop bbg ben suf := ap_set hb
theorem sW_s8_3 {b : Nat} {pre suf : mH} {pts : Nat} {edg : Nat} {nr : Nat → Nat} {rt : Nat → Nat} {sc : Nat → Nat → Nat} {wf : Nat → Nat} {ws : Nat → Nat} {bsz : Nat} {bop : Nat} {bbg : Nat → Nat} {ben : Nat → Nat} (hb : pre.length = b) {v : Nat} : (sW b pre pts edg nr rt sc wf ws bsz bop bbg ben suf).set (b + 8) (.inr (0, [.ref (b + 9), .ref (b + 10), .int (nI bsz), .int (nI bop)].set 3 (.int (nI v)))) = sW b pre pts edg nr rt sc wf ws bsz v bbg ben suf := ap_set hb
theorem sW_a9 {b : Nat} {pre suf : mH} {pts : Nat} {edg : Nat} {nr : Nat → Nat} {rt : Nat → Nat} {sc : Nat → Nat → Nat} {wf : Nat → Nat} {ws : Nat → Nat} {bsz : Nat} {bop : Nat} {bbg : Nat → Nat} {ben : Nat → Nat} (hb : pre.length = b) : (sW b pre pts edg nr rt sc wf ws bsz bop bbg ben suf)[b + 9]? = some (.inl (0, 40, .inl (nA bbg))) := ap_get hb
theorem sW_t9 {b : Nat} {pre suf : mH} {pts : Nat} {edg : Nat} {nr : Nat → Nat} {rt : Nat → Nat} {sc : Nat → Nat → Nat} {wf : Nat → Nat} {ws : Nat → Nat} {bsz : Nat} {bop : Nat} {bbg : Nat → Nat} {ben : Nat → Nat} (hb : pre.length = b) {g : Nat → Nat} : (sW b pre pts edg nr rt sc wf ws bsz bop bbg ben suf).set (b + 9) (.inl (0, 40, .inl (nA g))) = sW b pre pts edg nr rt sc wf ws bsz bop g ben suf := ap_set hb
theorem sW_a10 {b : Nat} {pre suf : mH} {pts : Nat} {edg : Nat} {nr : Nat → Nat} {rt : Nat → Nat} {sc : Nat → Nat → Nat} {wf : Nat → Nat} {ws : Nat → Nat} {bsz : Nat} {bop : Nat} {bbg : Nat → Nat} {ben : Nat → Nat} (hb : pre.length = b) : (sW b pre pts edg nr rt sc wf ws bsz bop bbg ben suf)[b + 10]? = some (.inl (0, 40, .inl (nA ben))) := ap_get hb
theorem sW_t10 {b : Nat} {pre suf : mH} {pts : Nat} {edg : Nat} {nr : Nat → Nat} {rt : Nat → Nat} {sc : Nat → Nat → Nat} {wf : Nat → Nat} {ws : Nat → Nat} {bsz : Nat} {bop : Nat} {bbg : Nat → Nat} {ben : Nat → Nat} (hb : pre.length = b) {g : Nat → Nat} : (sW b pre pts edg nr rt sc wf ws bsz bop bbg ben suf).set (b + 10) (.inl (0, 40, .inl (nA g))) = sW b pre pts edg nr rt sc wf ws bsz bop bbg g suf := ap_set hb
theorem sW_n {b : Nat} {pre suf : mH} {pts : Nat} {edg : Nat} {nr : Nat → Nat} {rt : Nat → Nat} {sc : Nat → Nat → Nat} {wf : Nat → Nat} {ws : Nat → Nat} {bsz : Nat} {bop : Nat} {bbg : Nat → Nat} {ben : Nat → Nat} : sW b pre pts edg nr rt sc wf ws bsz bop bbg ben suf = nW (b + 1) (pre ++ [.inr (5, [.ref (b + 1), .ref (b + 3), .ref (b + 8)])]) pts edg nr (.inr (1, [.ref (b + 4), .ref (b + 5), .ref (b + 6), .ref (b + 7)]) :: .inl (0, 9, .inl (nA rt)) :: .inl (0, 81, .inl (nA (K2 sc))) :: .inl (0, 9, .inl (nA wf)) :: .inl (0, 9, .inl (nA ws)) :: .inr (0, [.ref (b + 9), .ref (b + 10), .int (nI bsz), .int (nI bop)]) :: .inl (0, 40, .inl (nA bbg)) :: .inl (0, 40, .inl (nA ben)) :: suf) := (List.append_assoc pre [.inr (5, [.ref (b + 1), .ref (b + 3), .ref (b + 8)])] _).symm
theorem sW_k {b : Nat} {pre suf : mH} {pts : Nat} {edg : Nat} {nr : Nat → Nat} {rt : Nat → Nat} {sc : Nat → Nat → Nat} {wf : Nat → Nat} {ws : Nat → Nat} {bsz : Nat} {bop : Nat} {bbg : Nat → Nat} {ben : Nat → Nat} : sW b pre pts edg nr rt sc wf ws bsz bop bbg ben suf = kW (b + 3) (pre ++ [.inr (5, [.ref (b + 1), .ref (b + 3), .ref (b + 8)]), .inr (2, [.ref (b + 2), .int (nI pts), .int (nI edg)]), .inl (0, 9, .inl (nA nr))]) rt sc wf ws (.inr (0, [.ref (b + 9), .ref (b + 10), .int (nI bsz), .int (nI bop)]) :: .inl (0, 40, .inl (nA bbg)) :: .inl (0, 40, .inl (nA ben)) :: suf) := (List.append_assoc pre [.inr (5, [.ref (b + 1), .ref (b + 3), .ref (b + 8)]), .inr (2, [.ref (b + 2), .int (nI pts), .int (nI edg)]), .inl (0, 9, .inl (nA nr))] _).symm
theorem sW_b {b : Nat} {pre suf : mH} {pts : Nat} {edg : Nat} {nr : Nat → Nat} {rt : Nat → Nat} {sc : Nat → Nat → Nat} {wf : Nat → Nat} {ws : Nat → Nat} {bsz : Nat} {bop : Nat} {bbg : Nat → Nat} {ben : Nat → Nat} : sW b pre pts edg nr rt sc wf ws bsz bop bbg ben suf = bW (b + 8) (pre ++ [.inr (5, [.ref (b + 1), .ref (b + 3), .ref (b + 8)]), .inr (2, [.ref (b + 2), .int (nI pts), .int (nI edg)]), .inl (0, 9, .inl (nA nr)), .inr (1, [.ref (b + 4), .ref (b + 5), .ref (b + 6), .ref (b + 7)]), .inl (0, 9, .inl (nA rt)), .inl (0, 81, .inl (nA (K2 sc))), .inl (0, 9, .inl (nA wf)), .inl (0, 9, .inl (nA ws))]) bsz bop bbg ben suf := (List.append_assoc pre [.inr (5, [.ref (b + 1), .ref (b + 3), .ref (b + 8)]), .inr (2, [.ref (b + 2), .int (nI pts), .int (nI edg)]), .inl (0, 9, .inl (nA nr)), .inr (1, [.ref (b + 4), .ref (b + 5), .ref (b + 6), .ref (b + 7)]), .inl (0, 9, .inl (nA rt)), .inl (0, 81, .inl (nA (K2 sc))), .inl (0, 9, .inl (nA wf)), .inl (0, 9, .inl (nA ws))] _).symm
theorem sW_ln {b : Nat} {pre : mH} {e0 : va_E} (hb : pre.length = b) : (pre ++ [e0]).length = b + 1 := by simp [hb]
theorem sW_lk {b : Nat} {pre : mH} {e0 e1 e2 : va_E} (hb : pre.length = b) : (pre ++ [e0, e1, e2]).length = b + 3 := by simp [hb]
theorem sW_lb {b : Nat} {pre : mH} {e0 e1 e2 e3 e4 e5 e6 e7 : va_E} (hb : pre.length = b) : (pre ++ [e0, e1, e2, e3, e4, e5, e6, e7]).length = b + 8 := by simp [hb]
end
section
/-! Story: step -/
theorem r_Net_chg0 {d b : Nat} {pre suf : mH} {pts : Nat} {edg : Nat} {nr : Nat → Nat} {Q : Option Value → mH → Prop} (hb : pre.length = b) {ac : Nat} (hac : ac < 1024) (hA : ac >>> 4 &&& 15 < 9) (hB : ac &&& 15 < 9) (hκ : ac >>> 8 = 0 ∨ ac >>> 8 = 1) (hQ : Q none (nW b pre (pts ^^^ 1 <<< (ac >>> 4 &&& 15)) edg nr suf)) : Rn mprog (d + 4) n_Net_change [.ref b, .int (nI ac)] (nW b pre pts edg nr suf) Q := by
  refine Rn.in rfl rfl rfl ?_
  show WP _ _ _ _ 0 [.ref b, .int (nI ac), .long 0, .long 0] [] (nW b pre pts edg nr suf)
  refine wq_iload_n rfl rfl ?_
  refine wq_stat (a := [.int (nI ac)]) (rest := []) rfl rfl rfl rfl rfl ?_
  refine r_Z_lowOf (by omega) ?_
  show WP _ _ _ _ 4 [.ref b, .int (nI ac), .long 0, .long 0] [.int (nI (ac >>> 4 &&& 15))] (nW b pre pts edg nr suf)
  refine wq_istore_n (lv' := [.ref b, .int (nI ac), .int (nI (ac >>> 4 &&& 15)), .long 0]) rfl rfl rfl ?_
  refine wq_iload_n rfl rfl ?_
  refine wq_stat (a := [.int (nI ac)]) (rest := []) rfl rfl rfl rfl rfl ?_
  refine r_Z_highOf ?_
  show WP _ _ _ _ 9 [.ref b, .int (nI ac), .int (nI (ac >>> 4 &&& 15)), .long 0] [.int (nI (ac &&& 15))] (nW b pre pts edg nr suf)
  refine wq_istore_n (lv' := [.ref b, .int (nI ac), .int (nI (ac >>> 4 &&& 15)), .int (nI (ac &&& 15))]) rfl rfl rfl ?_
  refine wq_iload_n rfl rfl ?_
  refine wq_stat (a := [.int (nI (ac >>> 4 &&& 15))]) (rest := []) rfl rfl rfl rfl rfl ?_
  refine r_Z_isPt (by omega) ?_
  show WP _ _ _ _ 14 [.ref b, .int (nI ac), .int (nI (ac >>> 4 &&& 15)), .int (nI (ac &&& 15))] [.int (nI 1)] (nW b pre pts edg nr suf)
  refine wq_if_eq rfl (fun c => absurd c (by decide)) (fun _ => ?_)
  refine wq_iload_n rfl rfl ?_
  refine wq_stat (a := [.int (nI (ac &&& 15))]) (rest := []) rfl rfl rfl rfl rfl ?_
  refine r_Z_isPt (by omega) ?_
  show WP _ _ _ _ 21 [.ref b, .int (nI ac), .int (nI (ac >>> 4 &&& 15)), .int (nI (ac &&& 15))] [.int (nI 1)] (nW b pre pts edg nr suf)
  refine wq_if_ne rfl (fun _ => ?_) (fun c => absurd c (by decide))
  have hsA := Nat.lt_trans (sh_lt (n := 9) hA) (show 2 ^ 9 < 2 ^ 32 by decide)
  have hsB := Nat.lt_trans (sh_lt (n := 9) hB) (show 2 ^ 9 < 2 ^ 32 by decide)
  refine wq_iload_n rfl rfl ?_
  refine wq_stat (a := [.int (nI ac)]) (rest := []) rfl rfl rfl rfl rfl ?_
  refine r_Z_kindOf (by omega) ?_
  show WP _ _ _ _ 29 [.ref b, .int (nI ac), .int (nI (ac >>> 4 &&& 15)), .int (nI (ac &&& 15))] [.int (nI (ac >>> 8))] (nW b pre pts edg nr suf)
  refine wq_stat (a := [.int (nI (ac >>> 8))]) (rest := []) rfl rfl rfl rfl rfl ?_
  refine r_Z_isOfEdge (fun c => absurd c (by rcases hκ with q | q <;> rw [q] <;> decide)) (fun _ => ?_)
  show WP _ _ _ _ 32 [.ref b, .int (nI ac), .int (nI (ac >>> 4 &&& 15)), .int (nI (ac &&& 15))] [.int (nI 0)] (nW b pre pts edg nr suf)
  refine wq_if_ne rfl (fun c => absurd c (by decide)) (fun _ => ?_)
  refine wq_aload_n rfl rfl ?_
  refine wq_dup rfl rfl ?_
  refine wq_getfield (v := .int (nI pts)) rfl (nW_o0 hb) rfl ?_
  refine wq_iconst (v := nI 1) rfl (by decide) ?_
  refine wq_iload_n rfl rfl ?_
  refine wn_ishl rfl (by omega) hsA ?_
  refine wn_ixor rfl ?_
  refine wq_putfield (h' := nW b pre (pts ^^^ (1 <<< (ac >>> 4 &&& 15))) edg nr suf) rfl (nW_o0 hb) rfl (nW_s0_1 hb) ?_
  refine wq_vret rfl rfl ?_
  exact hQ
theorem r_Net_chg2 {d b : Nat} {pre suf : mH} {pts : Nat} {edg : Nat} {nr : Nat → Nat} {Q : Option Value → mH → Prop} (hb : pre.length = b) {ac : Nat} (hac : ac < 1024) (hA : ac >>> 4 &&& 15 < 9) (hB : ac &&& 15 < 9) (hnr : ∀ p, p < 9 → nr p < 512) (hκ : ac >>> 8 = 2 ∨ ac >>> 8 = 3) (hbit : (nr (ac >>> 4 &&& 15)).testBit (ac &&& 15) = false) (hQ : Q none (nW b pre pts (edg + 1) (nrX nr (ac >>> 4 &&& 15) (ac &&& 15)) suf)) : Rn mprog (d + 4) n_Net_change [.ref b, .int (nI ac)] (nW b pre pts edg nr suf) Q := by
  refine Rn.in rfl rfl rfl ?_
  show WP _ _ _ _ 0 [.ref b, .int (nI ac), .long 0, .long 0] [] (nW b pre pts edg nr suf)
  refine wq_iload_n rfl rfl ?_
  refine wq_stat (a := [.int (nI ac)]) (rest := []) rfl rfl rfl rfl rfl ?_
  refine r_Z_lowOf (by omega) ?_
  show WP _ _ _ _ 4 [.ref b, .int (nI ac), .long 0, .long 0] [.int (nI (ac >>> 4 &&& 15))] (nW b pre pts edg nr suf)
  refine wq_istore_n (lv' := [.ref b, .int (nI ac), .int (nI (ac >>> 4 &&& 15)), .long 0]) rfl rfl rfl ?_
  refine wq_iload_n rfl rfl ?_
  refine wq_stat (a := [.int (nI ac)]) (rest := []) rfl rfl rfl rfl rfl ?_
  refine r_Z_highOf ?_
  show WP _ _ _ _ 9 [.ref b, .int (nI ac), .int (nI (ac >>> 4 &&& 15)), .long 0] [.int (nI (ac &&& 15))] (nW b pre pts edg nr suf)
  refine wq_istore_n (lv' := [.ref b, .int (nI ac), .int (nI (ac >>> 4 &&& 15)), .int (nI (ac &&& 15))]) rfl rfl rfl ?_
  refine wq_iload_n rfl rfl ?_
  refine wq_stat (a := [.int (nI (ac >>> 4 &&& 15))]) (rest := []) rfl rfl rfl rfl rfl ?_
  refine r_Z_isPt (by omega) ?_
  show WP _ _ _ _ 14 [.ref b, .int (nI ac), .int (nI (ac >>> 4 &&& 15)), .int (nI (ac &&& 15))] [.int (nI 1)] (nW b pre pts edg nr suf)
  refine wq_if_eq rfl (fun c => absurd c (by decide)) (fun _ => ?_)
  refine wq_iload_n rfl rfl ?_
  refine wq_stat (a := [.int (nI (ac &&& 15))]) (rest := []) rfl rfl rfl rfl rfl ?_
  refine r_Z_isPt (by omega) ?_
  show WP _ _ _ _ 21 [.ref b, .int (nI ac), .int (nI (ac >>> 4 &&& 15)), .int (nI (ac &&& 15))] [.int (nI 1)] (nW b pre pts edg nr suf)
  refine wq_if_ne rfl (fun _ => ?_) (fun c => absurd c (by decide))
  have hsA := Nat.lt_trans (sh_lt (n := 9) hA) (show 2 ^ 9 < 2 ^ 32 by decide)
  have hsB := Nat.lt_trans (sh_lt (n := 9) hB) (show 2 ^ 9 < 2 ^ 32 by decide)
  refine wq_iload_n rfl rfl ?_
  refine wq_stat (a := [.int (nI ac)]) (rest := []) rfl rfl rfl rfl rfl ?_
  refine r_Z_kindOf (by omega) ?_
  show WP _ _ _ _ 29 [.ref b, .int (nI ac), .int (nI (ac >>> 4 &&& 15)), .int (nI (ac &&& 15))] [.int (nI (ac >>> 8))] (nW b pre pts edg nr suf)
  refine wq_stat (a := [.int (nI (ac >>> 8))]) (rest := []) rfl rfl rfl rfl rfl ?_
  refine r_Z_isOfEdge (fun _ => ?_) (fun c => absurd (by rcases hκ with q | q <;> rw [q] <;> first | exact Or.inl rfl | exact Or.inr rfl) c)
  show WP _ _ _ _ 32 [.ref b, .int (nI ac), .int (nI (ac >>> 4 &&& 15)), .int (nI (ac &&& 15))] [.int (nI 1)] (nW b pre pts edg nr suf)
  refine wq_if_ne rfl (fun _ => ?_) (fun c => absurd c (by decide))
  refine wq_aload_n rfl rfl ?_
  refine wq_dup rfl rfl ?_
  refine wq_getfield (v := .int (nI edg)) rfl (nW_o0 hb) rfl ?_
  refine wq_aload_n rfl rfl ?_
  refine wq_iload_n rfl rfl ?_
  refine wq_iload_n rfl rfl ?_
  refine wq_virt (b := b) (a := [.int (nI (ac >>> 4 &&& 15)), .int (nI (ac &&& 15))]) (rest := [.int (nI edg), .ref b]) rfl rfl rfl rfl rfl (nW_o0 hb) ?_
  refine r_Net_joined hb (by omega) (by omega) hnr (fun c56 => absurd c56 (by rw [hbit]; decide)) (fun c56 => ?_)
  show WP _ _ _ _ 59 [.ref b, .int (nI ac), .int (nI (ac >>> 4 &&& 15)), .int (nI (ac &&& 15))] [.int (nI 0), .int (nI edg), .ref b] (nW b pre pts edg nr suf)
  refine wq_if_eq rfl (fun _ => ?_) (fun c => absurd c (by decide))
  refine wq_iconst (v := nI 1) rfl (by decide) ?_
  refine wn_iadd rfl ?_
  refine wq_putfield (h' := nW b pre pts (edg + 1) nr suf) rfl (nW_o0 hb) rfl (nW_s0_2 hb) ?_
  refine wq_aload_n rfl rfl ?_
  refine wq_getfield (v := .ref (b + 1)) rfl (nW_o0 hb) rfl ?_
  refine wq_iload_n rfl rfl ?_
  refine wq_dup2 rfl rfl rfl ?_
  refine wn_iaload (g := nr) rfl (nW_a1 hb) (by omega) (by decide) ?_
  refine wq_iconst (v := nI 1) rfl (by decide) ?_
  refine wq_iload_n rfl rfl ?_
  refine wn_ishl rfl (by omega) hsB ?_
  refine wn_ixor rfl ?_
  refine wn_iastore (g := nr) (h' := nW b pre pts (edg + 1) (uN' nr (ac >>> 4 &&& 15) ((nr (ac >>> 4 &&& 15)) ^^^ (1 <<< (ac &&& 15)))) suf) rfl (nW_a1 hb) (by omega) (by decide) (nW_t1 hb) ?_
  refine wq_aload_n rfl rfl ?_
  refine wq_getfield (v := .ref (b + 1)) rfl (nW_o0 hb) rfl ?_
  refine wq_iload_n rfl rfl ?_
  refine wq_dup2 rfl rfl rfl ?_
  refine wn_iaload (g := (uN' nr (ac >>> 4 &&& 15) ((nr (ac >>> 4 &&& 15)) ^^^ (1 <<< (ac &&& 15))))) rfl (nW_a1 hb) (by omega) (by decide) ?_
  refine wq_iconst (v := nI 1) rfl (by decide) ?_
  refine wq_iload_n rfl rfl ?_
  refine wn_ishl rfl (by omega) hsA ?_
  refine wn_ixor rfl ?_
  refine wn_iastore (g := (uN' nr (ac >>> 4 &&& 15) ((nr (ac >>> 4 &&& 15)) ^^^ (1 <<< (ac &&& 15))))) (h' := nW b pre pts (edg + 1) (uN' ((uN' nr (ac >>> 4 &&& 15) ((nr (ac >>> 4 &&& 15)) ^^^ (1 <<< (ac &&& 15))))) (ac &&& 15) ((((uN' nr (ac >>> 4 &&& 15) ((nr (ac >>> 4 &&& 15)) ^^^ (1 <<< (ac &&& 15))))) (ac &&& 15)) ^^^ (1 <<< (ac >>> 4 &&& 15)))) suf) rfl (nW_a1 hb) (by omega) (by decide) (nW_t1 hb) ?_
  refine wq_vret rfl rfl ?_
  exact hQ
theorem r_Net_chg3 {d b : Nat} {pre suf : mH} {pts : Nat} {edg : Nat} {nr : Nat → Nat} {Q : Option Value → mH → Prop} (hb : pre.length = b) {ac : Nat} (hac : ac < 1024) (hA : ac >>> 4 &&& 15 < 9) (hB : ac &&& 15 < 9) (hnr : ∀ p, p < 9 → nr p < 512) (hκ : ac >>> 8 = 2 ∨ ac >>> 8 = 3) (hbit : (nr (ac >>> 4 &&& 15)).testBit (ac &&& 15) = true) (he : 0 < edg) (hQ : Q none (nW b pre pts (edg - 1) (nrX nr (ac >>> 4 &&& 15) (ac &&& 15)) suf)) : Rn mprog (d + 4) n_Net_change [.ref b, .int (nI ac)] (nW b pre pts edg nr suf) Q := by
  refine Rn.in rfl rfl rfl ?_
  show WP _ _ _ _ 0 [.ref b, .int (nI ac), .long 0, .long 0] [] (nW b pre pts edg nr suf)
  refine wq_iload_n rfl rfl ?_
  refine wq_stat (a := [.int (nI ac)]) (rest := []) rfl rfl rfl rfl rfl ?_
  refine r_Z_lowOf (by omega) ?_
  show WP _ _ _ _ 4 [.ref b, .int (nI ac), .long 0, .long 0] [.int (nI (ac >>> 4 &&& 15))] (nW b pre pts edg nr suf)
  refine wq_istore_n (lv' := [.ref b, .int (nI ac), .int (nI (ac >>> 4 &&& 15)), .long 0]) rfl rfl rfl ?_
  refine wq_iload_n rfl rfl ?_
  refine wq_stat (a := [.int (nI ac)]) (rest := []) rfl rfl rfl rfl rfl ?_
  refine r_Z_highOf ?_
  show WP _ _ _ _ 9 [.ref b, .int (nI ac), .int (nI (ac >>> 4 &&& 15)), .long 0] [.int (nI (ac &&& 15))] (nW b pre pts edg nr suf)
  refine wq_istore_n (lv' := [.ref b, .int (nI ac), .int (nI (ac >>> 4 &&& 15)), .int (nI (ac &&& 15))]) rfl rfl rfl ?_
  refine wq_iload_n rfl rfl ?_
  refine wq_stat (a := [.int (nI (ac >>> 4 &&& 15))]) (rest := []) rfl rfl rfl rfl rfl ?_
  refine r_Z_isPt (by omega) ?_
  show WP _ _ _ _ 14 [.ref b, .int (nI ac), .int (nI (ac >>> 4 &&& 15)), .int (nI (ac &&& 15))] [.int (nI 1)] (nW b pre pts edg nr suf)
  refine wq_if_eq rfl (fun c => absurd c (by decide)) (fun _ => ?_)
  refine wq_iload_n rfl rfl ?_
  refine wq_stat (a := [.int (nI (ac &&& 15))]) (rest := []) rfl rfl rfl rfl rfl ?_
  refine r_Z_isPt (by omega) ?_
  show WP _ _ _ _ 21 [.ref b, .int (nI ac), .int (nI (ac >>> 4 &&& 15)), .int (nI (ac &&& 15))] [.int (nI 1)] (nW b pre pts edg nr suf)
  refine wq_if_ne rfl (fun _ => ?_) (fun c => absurd c (by decide))
  have hsA := Nat.lt_trans (sh_lt (n := 9) hA) (show 2 ^ 9 < 2 ^ 32 by decide)
  have hsB := Nat.lt_trans (sh_lt (n := 9) hB) (show 2 ^ 9 < 2 ^ 32 by decide)
  refine wq_iload_n rfl rfl ?_
  refine wq_stat (a := [.int (nI ac)]) (rest := []) rfl rfl rfl rfl rfl ?_
  refine r_Z_kindOf (by omega) ?_
  show WP _ _ _ _ 29 [.ref b, .int (nI ac), .int (nI (ac >>> 4 &&& 15)), .int (nI (ac &&& 15))] [.int (nI (ac >>> 8))] (nW b pre pts edg nr suf)
  refine wq_stat (a := [.int (nI (ac >>> 8))]) (rest := []) rfl rfl rfl rfl rfl ?_
  refine r_Z_isOfEdge (fun _ => ?_) (fun c => absurd (by rcases hκ with q | q <;> rw [q] <;> first | exact Or.inl rfl | exact Or.inr rfl) c)
  show WP _ _ _ _ 32 [.ref b, .int (nI ac), .int (nI (ac >>> 4 &&& 15)), .int (nI (ac &&& 15))] [.int (nI 1)] (nW b pre pts edg nr suf)
  refine wq_if_ne rfl (fun _ => ?_) (fun c => absurd c (by decide))
  refine wq_aload_n rfl rfl ?_
  refine wq_dup rfl rfl ?_
  refine wq_getfield (v := .int (nI edg)) rfl (nW_o0 hb) rfl ?_
  refine wq_aload_n rfl rfl ?_
  refine wq_iload_n rfl rfl ?_
  refine wq_iload_n rfl rfl ?_
  refine wq_virt (b := b) (a := [.int (nI (ac >>> 4 &&& 15)), .int (nI (ac &&& 15))]) (rest := [.int (nI edg), .ref b]) rfl rfl rfl rfl rfl (nW_o0 hb) ?_
  refine r_Net_joined hb (by omega) (by omega) hnr (fun c56 => ?_) (fun c56 => absurd c56 (by rw [hbit]; decide))
  show WP _ _ _ _ 59 [.ref b, .int (nI ac), .int (nI (ac >>> 4 &&& 15)), .int (nI (ac &&& 15))] [.int (nI 1), .int (nI edg), .ref b] (nW b pre pts edg nr suf)
  refine wq_if_eq rfl (fun c => absurd c (by decide)) (fun _ => ?_)
  refine wq_iconst (v := (-1)) rfl (by decide) ?_
  refine wq_goto rfl ?_
  refine wq_iadd (v := nI (edg - 1)) rfl (nI_dec he) ?_
  refine wq_putfield (h' := nW b pre pts (edg - 1) nr suf) rfl (nW_o0 hb) rfl (nW_s0_2 hb) ?_
  refine wq_aload_n rfl rfl ?_
  refine wq_getfield (v := .ref (b + 1)) rfl (nW_o0 hb) rfl ?_
  refine wq_iload_n rfl rfl ?_
  refine wq_dup2 rfl rfl rfl ?_
  refine wn_iaload (g := nr) rfl (nW_a1 hb) (by omega) (by decide) ?_
  refine wq_iconst (v := nI 1) rfl (by decide) ?_
  refine wq_iload_n rfl rfl ?_
  refine wn_ishl rfl (by omega) hsB ?_
  refine wn_ixor rfl ?_
  refine wn_iastore (g := nr) (h' := nW b pre pts (edg - 1) (uN' nr (ac >>> 4 &&& 15) ((nr (ac >>> 4 &&& 15)) ^^^ (1 <<< (ac &&& 15)))) suf) rfl (nW_a1 hb) (by omega) (by decide) (nW_t1 hb) ?_
  refine wq_aload_n rfl rfl ?_
  refine wq_getfield (v := .ref (b + 1)) rfl (nW_o0 hb) rfl ?_
  refine wq_iload_n rfl rfl ?_
  refine wq_dup2 rfl rfl rfl ?_
  refine wn_iaload (g := (uN' nr (ac >>> 4 &&& 15) ((nr (ac >>> 4 &&& 15)) ^^^ (1 <<< (ac &&& 15))))) rfl (nW_a1 hb) (by omega) (by decide) ?_
  refine wq_iconst (v := nI 1) rfl (by decide) ?_
  refine wq_iload_n rfl rfl ?_
  refine wn_ishl rfl (by omega) hsA ?_
  refine wn_ixor rfl ?_
  refine wn_iastore (g := (uN' nr (ac >>> 4 &&& 15) ((nr (ac >>> 4 &&& 15)) ^^^ (1 <<< (ac &&& 15))))) (h' := nW b pre pts (edg - 1) (uN' ((uN' nr (ac >>> 4 &&& 15) ((nr (ac >>> 4 &&& 15)) ^^^ (1 <<< (ac &&& 15))))) (ac &&& 15) ((((uN' nr (ac >>> 4 &&& 15) ((nr (ac >>> 4 &&& 15)) ^^^ (1 <<< (ac &&& 15))))) (ac &&& 15)) ^^^ (1 <<< (ac >>> 4 &&& 15)))) suf) rfl (nW_a1 hb) (by omega) (by decide) (nW_t1 hb) ?_
  refine wq_vret rfl rfl ?_
  exact hQ
theorem r_Sto_step0 {d b : Nat} {pre suf : mH} {pts : Nat} {edg : Nat} {nr : Nat → Nat} {rt : Nat → Nat} {sc : Nat → Nat → Nat} {wf : Nat → Nat} {ws : Nat → Nat} {bsz : Nat} {bop : Nat} {bbg : Nat → Nat} {ben : Nat → Nat} {Q : Option Value → mH → Prop} (hb : pre.length = b) {ac k : Nat} (hac : ac < 1024) (hA : ac >>> 4 &&& 15 < 9) (hB : ac &&& 15 < 9) (hk : k < 1000) (hpt : pts < 512) (hnr : ∀ p, p < 9 → nr p < 512) (hκ : ac >>> 8 = 0) (hAB : ac &&& 15 = ac >>> 4 &&& 15) (habs : pts.testBit (ac >>> 4 &&& 15) = false) (hpx : pts ^^^ 1 <<< (ac >>> 4 &&& 15) < 512) (hpx2 : (pts ^^^ 1 <<< (ac >>> 4 &&& 15)).testBit (ac >>> 4 &&& 15) = true) (hQ : Q none (sW b pre (pts ^^^ 1 <<< (ac >>> 4 &&& 15)) edg nr (uN' rt (ac >>> 4 &&& 15) k) sc wf ws bsz bop bbg ben suf)) : Rn mprog (d + 5) n_Sto_step [.ref b, .int (nI ac), .int (nI k)] (sW b pre pts edg nr rt sc wf ws bsz bop bbg ben suf) Q := by
  refine Rn.in rfl rfl rfl ?_
  show WP _ _ _ _ 0 [.ref b, .int (nI ac), .int (nI k), .long 0, .long 0, .long 0, .long 0] [] (sW b pre pts edg nr rt sc wf ws bsz bop bbg ben suf)
  have hκ2 : ac >>> 8 = 0 ∨ ac >>> 8 = 1 := Or.inl hκ
  refine wq_iload_n rfl rfl ?_
  refine wq_stat (a := [.int (nI ac)]) (rest := []) rfl rfl rfl rfl rfl ?_
  refine r_Z_lowOf (by omega) ?_
  show WP _ _ _ _ 4 [.ref b, .int (nI ac), .int (nI k), .long 0, .long 0, .long 0, .long 0] [.int (nI (ac >>> 4 &&& 15))] (sW b pre pts edg nr rt sc wf ws bsz bop bbg ben suf)
  refine wq_istore_n (lv' := [.ref b, .int (nI ac), .int (nI k), .int (nI (ac >>> 4 &&& 15)), .long 0, .long 0, .long 0]) rfl rfl rfl ?_
  refine wq_iload_n rfl rfl ?_
  refine wq_stat (a := [.int (nI ac)]) (rest := []) rfl rfl rfl rfl rfl ?_
  refine r_Z_highOf ?_
  show WP _ _ _ _ 9 [.ref b, .int (nI ac), .int (nI k), .int (nI (ac >>> 4 &&& 15)), .long 0, .long 0, .long 0] [.int (nI (ac &&& 15))] (sW b pre pts edg nr rt sc wf ws bsz bop bbg ben suf)
  refine wq_istore (lv' := [.ref b, .int (nI ac), .int (nI k), .int (nI (ac >>> 4 &&& 15)), .int (nI (ac &&& 15)), .long 0, .long 0]) rfl rfl rfl ?_
  refine wq_aload_n rfl rfl ?_
  refine wq_getfield (v := .ref (b + 1)) rfl (sW_o0 hb) rfl ?_
  refine wq_iload_n rfl rfl ?_
  refine wq_virt (b := b + 1) (a := [.int (nI (ac >>> 4 &&& 15))]) (rest := []) rfl rfl rfl rfl rfl (sW_o1 hb) ?_
  rw [sW_n]
  refine r_Net_pieceOf_no (sW_ln hb) (by omega) (by omega) (by assumption) ?_
  rw [← sW_n]
  show WP _ _ _ _ 19 [.ref b, .int (nI ac), .int (nI k), .int (nI (ac >>> 4 &&& 15)), .int (nI (ac &&& 15)), .long 0, .long 0] [.int (nI 0)] (sW b pre pts edg nr rt sc wf ws bsz bop bbg ben suf)
  refine wq_iload rfl rfl ?_
  refine wq_stat (a := [.int (nI 0), .int (nI (ac &&& 15))]) (rest := []) rfl rfl rfl rfl rfl ?_
  refine r_Z_isIn (by omega) (by omega) (fun c21 => absurd c21 (by simp)) (fun c21 => ?_)
  show WP _ _ _ _ 24 [.ref b, .int (nI ac), .int (nI k), .int (nI (ac >>> 4 &&& 15)), .int (nI (ac &&& 15)), .long 0, .long 0] [.int (nI 0)] (sW b pre pts edg nr rt sc wf ws bsz bop bbg ben suf)
  refine wq_istore (lv' := [.ref b, .int (nI ac), .int (nI k), .int (nI (ac >>> 4 &&& 15)), .int (nI (ac &&& 15)), .int (nI 0), .long 0]) rfl rfl rfl ?_
  refine wq_aload_n rfl rfl ?_
  refine wq_getfield (v := .ref (b + 1)) rfl (sW_o0 hb) rfl ?_
  refine wq_iload_n rfl rfl ?_
  refine wq_virt (b := b + 1) (a := [.int (nI ac)]) (rest := []) rfl rfl rfl rfl rfl (sW_o1 hb) ?_
  rw [sW_n]
  refine r_Net_chg0 (sW_ln hb) hac hA hB hκ2 ?_
  rw [← sW_n]
  show WP _ _ _ _ 34 [.ref b, .int (nI ac), .int (nI k), .int (nI (ac >>> 4 &&& 15)), .int (nI (ac &&& 15)), .int (nI 0), .long 0] [] (sW b pre (pts ^^^ 1 <<< (ac >>> 4 &&& 15)) edg nr rt sc wf ws bsz bop bbg ben suf)
  refine wq_aload_n rfl rfl ?_
  refine wq_getfield (v := .ref (b + 1)) rfl (sW_o0 hb) rfl ?_
  refine wq_iload_n rfl rfl ?_
  refine wq_virt (b := b + 1) (a := [.int (nI (ac >>> 4 &&& 15))]) (rest := []) rfl rfl rfl rfl rfl (sW_o1 hb) ?_
  rw [sW_n]
  refine r_Net_pieceOf (sW_ln hb) (by omega) hnr ?_ (by omega) hpx2
  intro R hR
  have hRl := hR.1
  rw [← sW_n]
  show WP _ _ _ _ 42 [.ref b, .int (nI ac), .int (nI k), .int (nI (ac >>> 4 &&& 15)), .int (nI (ac &&& 15)), .int (nI 0), .long 0] [.int (nI R)] (sW b pre (pts ^^^ 1 <<< (ac >>> 4 &&& 15)) edg nr rt sc wf ws bsz bop bbg ben suf)
  refine wq_iload rfl rfl ?_
  refine wq_stat (a := [.int (nI R), .int (nI (ac &&& 15))]) (rest := []) rfl rfl rfl rfl rfl ?_
  refine r_Z_isIn (by omega) (by omega) (fun c44 => ?_) (fun c44 => absurd c44 (by rw [hAB, hR.2.1]; decide))
  show WP _ _ _ _ 47 [.ref b, .int (nI ac), .int (nI k), .int (nI (ac >>> 4 &&& 15)), .int (nI (ac &&& 15)), .int (nI 0), .long 0] [.int (nI 1)] (sW b pre (pts ^^^ 1 <<< (ac >>> 4 &&& 15)) edg nr rt sc wf ws bsz bop bbg ben suf)
  refine wq_istore (lv' := [.ref b, .int (nI ac), .int (nI k), .int (nI (ac >>> 4 &&& 15)), .int (nI (ac &&& 15)), .int (nI 0), .int (nI 1)]) rfl rfl rfl ?_
  refine wq_iload_n rfl rfl ?_
  refine wq_stat (a := [.int (nI ac)]) (rest := []) rfl rfl rfl rfl rfl ?_
  refine r_Z_kindOf (by omega) ?_
  show WP _ _ _ _ 53 [.ref b, .int (nI ac), .int (nI k), .int (nI (ac >>> 4 &&& 15)), .int (nI (ac &&& 15)), .int (nI 0), .int (nI 1)] [.int (nI (ac >>> 8))] (sW b pre (pts ^^^ 1 <<< (ac >>> 4 &&& 15)) edg nr rt sc wf ws bsz bop bbg ben suf)
  refine wq_tsw (t := 80) rfl (by rw [hκ]; decide) ?_
  refine wq_aload_n rfl rfl ?_
  refine wq_getfield (v := .ref (b + 3)) rfl (sW_o0 hb) rfl ?_
  refine wq_iload_n rfl rfl ?_
  refine wq_iload_n rfl rfl ?_
  refine wq_virt (b := b + 3) (a := [.int (nI (ac >>> 4 &&& 15)), .int (nI k)]) (rest := []) rfl rfl rfl rfl rfl (sW_o3 hb) ?_
  rw [sW_k]
  refine r_Kin_come (sW_lk hb) (by omega) ?_
  rw [← sW_k]
  show WP _ _ _ _ 89 [.ref b, .int (nI ac), .int (nI k), .int (nI (ac >>> 4 &&& 15)), .int (nI (ac &&& 15)), .int (nI 0), .int (nI 1)] [] (sW b pre (pts ^^^ 1 <<< (ac >>> 4 &&& 15)) edg nr (uN' rt (ac >>> 4 &&& 15) k) sc wf ws bsz bop bbg ben suf)
  refine wq_goto rfl ?_
  refine wq_vret rfl rfl ?_
  exact hQ
theorem r_Sto_step1 {d b : Nat} {pre suf : mH} {pts : Nat} {edg : Nat} {nr : Nat → Nat} {rt : Nat → Nat} {sc : Nat → Nat → Nat} {wf : Nat → Nat} {ws : Nat → Nat} {bsz : Nat} {bop : Nat} {bbg : Nat → Nat} {ben : Nat → Nat} {Q : Option Value → mH → Prop} (hb : pre.length = b) {ac k : Nat} (hac : ac < 1024) (hA : ac >>> 4 &&& 15 < 9) (hB : ac &&& 15 < 9) (hk : k < 1000) (hpt : pts < 512) (hnr : ∀ p, p < 9 → nr p < 512) (hbs : bsz < 40) (hbv : ∀ i, i < 40 → bbg i < 2 ^ 31 ∧ ben i < 2 ^ 31) (hsc : ∀ p q, p < 9 → q < 9 → sc p q < 1000) (hrt : ∀ p, p < 9 → rt p < 1000) (hκ : ac >>> 8 = 1) (hAB : ac &&& 15 = ac >>> 4 &&& 15) (hin : pts.testBit (ac >>> 4 &&& 15) = true) (hpx : pts ^^^ 1 <<< (ac >>> 4 &&& 15) < 512) (hpx2 : (pts ^^^ 1 <<< (ac >>> 4 &&& 15)).testBit (ac >>> 4 &&& 15) = false) (hQ : ∀ p, p ≤ bsz → (∀ i, p ≤ i → i < bsz → gtP (bbg i) (ben i) (if 0 < mxS (pts ^^^ 1 <<< (ac >>> 4 &&& 15)) (sc (ac >>> 4 &&& 15)) 9 then mxS (pts ^^^ 1 <<< (ac >>> 4 &&& 15)) (sc (ac >>> 4 &&& 15)) 9 else rt (ac >>> 4 &&& 15)) k = true) → (p = 0 ∨ gtP (bbg (p - 1)) (ben (p - 1)) (if 0 < mxS (pts ^^^ 1 <<< (ac >>> 4 &&& 15)) (sc (ac >>> 4 &&& 15)) 9 then mxS (pts ^^^ 1 <<< (ac >>> 4 &&& 15)) (sc (ac >>> 4 &&& 15)) 9 else rt (ac >>> 4 &&& 15)) k = false) → Q none (sW b pre (pts ^^^ 1 <<< (ac >>> 4 &&& 15)) edg nr (uN' rt (ac >>> 4 &&& 15) 0) (kz sc (ac >>> 4 &&& 15) 9) wf ws (bsz + 1) (if k = 99 then bop + 1 else bop) (inA bbg p bsz (if 0 < mxS (pts ^^^ 1 <<< (ac >>> 4 &&& 15)) (sc (ac >>> 4 &&& 15)) 9 then mxS (pts ^^^ 1 <<< (ac >>> 4 &&& 15)) (sc (ac >>> 4 &&& 15)) 9 else rt (ac >>> 4 &&& 15))) (inA ben p bsz k) suf)) : Rn mprog (d + 5) n_Sto_step [.ref b, .int (nI ac), .int (nI k)] (sW b pre pts edg nr rt sc wf ws bsz bop bbg ben suf) Q := by
  refine Rn.in rfl rfl rfl ?_
  show WP _ _ _ _ 0 [.ref b, .int (nI ac), .int (nI k), .long 0, .long 0, .long 0, .long 0] [] (sW b pre pts edg nr rt sc wf ws bsz bop bbg ben suf)
  have hκ2 : ac >>> 8 = 0 ∨ ac >>> 8 = 1 := Or.inr hκ
  have hm := mxS_le (oth := pts ^^^ 1 <<< (ac >>> 4 &&& 15)) (m := 999) (r := sc (ac >>> 4 &&& 15)) (fun q hq => by have := hsc _ q hA hq; omega) 9 (Nat.le_refl 9)
  have hr1 := hrt _ hA
  have hbeg : (if 0 < mxS (pts ^^^ 1 <<< (ac >>> 4 &&& 15)) (sc (ac >>> 4 &&& 15)) 9 then mxS (pts ^^^ 1 <<< (ac >>> 4 &&& 15)) (sc (ac >>> 4 &&& 15)) 9 else rt (ac >>> 4 &&& 15)) < 1000 := by split <;> omega
  refine wq_iload_n rfl rfl ?_
  refine wq_stat (a := [.int (nI ac)]) (rest := []) rfl rfl rfl rfl rfl ?_
  refine r_Z_lowOf (by omega) ?_
  show WP _ _ _ _ 4 [.ref b, .int (nI ac), .int (nI k), .long 0, .long 0, .long 0, .long 0] [.int (nI (ac >>> 4 &&& 15))] (sW b pre pts edg nr rt sc wf ws bsz bop bbg ben suf)
  refine wq_istore_n (lv' := [.ref b, .int (nI ac), .int (nI k), .int (nI (ac >>> 4 &&& 15)), .long 0, .long 0, .long 0]) rfl rfl rfl ?_
  refine wq_iload_n rfl rfl ?_
  refine wq_stat (a := [.int (nI ac)]) (rest := []) rfl rfl rfl rfl rfl ?_
  refine r_Z_highOf ?_
  show WP _ _ _ _ 9 [.ref b, .int (nI ac), .int (nI k), .int (nI (ac >>> 4 &&& 15)), .long 0, .long 0, .long 0] [.int (nI (ac &&& 15))] (sW b pre pts edg nr rt sc wf ws bsz bop bbg ben suf)
  refine wq_istore (lv' := [.ref b, .int (nI ac), .int (nI k), .int (nI (ac >>> 4 &&& 15)), .int (nI (ac &&& 15)), .long 0, .long 0]) rfl rfl rfl ?_
  refine wq_aload_n rfl rfl ?_
  refine wq_getfield (v := .ref (b + 1)) rfl (sW_o0 hb) rfl ?_
  refine wq_iload_n rfl rfl ?_
  refine wq_virt (b := b + 1) (a := [.int (nI (ac >>> 4 &&& 15))]) (rest := []) rfl rfl rfl rfl rfl (sW_o1 hb) ?_
  rw [sW_n]
  refine r_Net_pieceOf (sW_ln hb) (by omega) hnr ?_ (by omega) hin
  intro R hR
  have hRl := hR.1
  rw [← sW_n]
  show WP _ _ _ _ 19 [.ref b, .int (nI ac), .int (nI k), .int (nI (ac >>> 4 &&& 15)), .int (nI (ac &&& 15)), .long 0, .long 0] [.int (nI R)] (sW b pre pts edg nr rt sc wf ws bsz bop bbg ben suf)
  refine wq_iload rfl rfl ?_
  refine wq_stat (a := [.int (nI R), .int (nI (ac &&& 15))]) (rest := []) rfl rfl rfl rfl rfl ?_
  refine r_Z_isIn (by omega) (by omega) (fun c21 => ?_) (fun c21 => absurd c21 (by rw [hAB, hR.2.1]; decide))
  show WP _ _ _ _ 24 [.ref b, .int (nI ac), .int (nI k), .int (nI (ac >>> 4 &&& 15)), .int (nI (ac &&& 15)), .long 0, .long 0] [.int (nI 1)] (sW b pre pts edg nr rt sc wf ws bsz bop bbg ben suf)
  refine wq_istore (lv' := [.ref b, .int (nI ac), .int (nI k), .int (nI (ac >>> 4 &&& 15)), .int (nI (ac &&& 15)), .int (nI 1), .long 0]) rfl rfl rfl ?_
  refine wq_aload_n rfl rfl ?_
  refine wq_getfield (v := .ref (b + 1)) rfl (sW_o0 hb) rfl ?_
  refine wq_iload_n rfl rfl ?_
  refine wq_virt (b := b + 1) (a := [.int (nI ac)]) (rest := []) rfl rfl rfl rfl rfl (sW_o1 hb) ?_
  rw [sW_n]
  refine r_Net_chg0 (sW_ln hb) hac hA hB hκ2 ?_
  rw [← sW_n]
  show WP _ _ _ _ 34 [.ref b, .int (nI ac), .int (nI k), .int (nI (ac >>> 4 &&& 15)), .int (nI (ac &&& 15)), .int (nI 1), .long 0] [] (sW b pre (pts ^^^ 1 <<< (ac >>> 4 &&& 15)) edg nr rt sc wf ws bsz bop bbg ben suf)
  refine wq_aload_n rfl rfl ?_
  refine wq_getfield (v := .ref (b + 1)) rfl (sW_o0 hb) rfl ?_
  refine wq_iload_n rfl rfl ?_
  refine wq_virt (b := b + 1) (a := [.int (nI (ac >>> 4 &&& 15))]) (rest := []) rfl rfl rfl rfl rfl (sW_o1 hb) ?_
  rw [sW_n]
  refine r_Net_pieceOf_no (sW_ln hb) (by omega) (by omega) (by assumption) ?_
  rw [← sW_n]
  show WP _ _ _ _ 42 [.ref b, .int (nI ac), .int (nI k), .int (nI (ac >>> 4 &&& 15)), .int (nI (ac &&& 15)), .int (nI 1), .long 0] [.int (nI 0)] (sW b pre (pts ^^^ 1 <<< (ac >>> 4 &&& 15)) edg nr rt sc wf ws bsz bop bbg ben suf)
  refine wq_iload rfl rfl ?_
  refine wq_stat (a := [.int (nI 0), .int (nI (ac &&& 15))]) (rest := []) rfl rfl rfl rfl rfl ?_
  refine r_Z_isIn (by omega) (by omega) (fun c44 => absurd c44 (by simp)) (fun c44 => ?_)
  show WP _ _ _ _ 47 [.ref b, .int (nI ac), .int (nI k), .int (nI (ac >>> 4 &&& 15)), .int (nI (ac &&& 15)), .int (nI 1), .long 0] [.int (nI 0)] (sW b pre (pts ^^^ 1 <<< (ac >>> 4 &&& 15)) edg nr rt sc wf ws bsz bop bbg ben suf)
  refine wq_istore (lv' := [.ref b, .int (nI ac), .int (nI k), .int (nI (ac >>> 4 &&& 15)), .int (nI (ac &&& 15)), .int (nI 1), .int (nI 0)]) rfl rfl rfl ?_
  refine wq_iload_n rfl rfl ?_
  refine wq_stat (a := [.int (nI ac)]) (rest := []) rfl rfl rfl rfl rfl ?_
  refine r_Z_kindOf (by omega) ?_
  show WP _ _ _ _ 53 [.ref b, .int (nI ac), .int (nI k), .int (nI (ac >>> 4 &&& 15)), .int (nI (ac &&& 15)), .int (nI 1), .int (nI 0)] [.int (nI (ac >>> 8))] (sW b pre (pts ^^^ 1 <<< (ac >>> 4 &&& 15)) edg nr rt sc wf ws bsz bop bbg ben suf)
  refine wq_tsw (t := 92) rfl (by rw [hκ]; decide) ?_
  refine wq_aload_n rfl rfl ?_
  refine wq_getfield (v := .ref (b + 8)) rfl (sW_o0 hb) rfl ?_
  refine wq_aload_n rfl rfl ?_
  refine wq_getfield (v := .ref (b + 3)) rfl (sW_o0 hb) rfl ?_
  refine wq_iload_n rfl rfl ?_
  refine wq_aload_n rfl rfl ?_
  refine wq_getfield (v := .ref (b + 1)) rfl (sW_o0 hb) rfl ?_
  refine wq_virt (b := b + 1) (a := []) (rest := [.int (nI (ac >>> 4 &&& 15)), .ref (b + 3), .ref (b + 8)]) rfl rfl rfl rfl rfl (sW_o1 hb) ?_
  rw [sW_n]
  refine r_Net_points (sW_ln hb) ?_
  rw [← sW_n]
  show WP _ _ _ _ 108 [.ref b, .int (nI ac), .int (nI k), .int (nI (ac >>> 4 &&& 15)), .int (nI (ac &&& 15)), .int (nI 1), .int (nI 0)] [.int (nI (pts ^^^ 1 <<< (ac >>> 4 &&& 15))), .int (nI (ac >>> 4 &&& 15)), .ref (b + 3), .ref (b + 8)] (sW b pre (pts ^^^ 1 <<< (ac >>> 4 &&& 15)) edg nr rt sc wf ws bsz bop bbg ben suf)
  refine wq_virt (b := b + 3) (a := [.int (nI (ac >>> 4 &&& 15)), .int (nI (pts ^^^ 1 <<< (ac >>> 4 &&& 15)))]) (rest := [.ref (b + 8)]) rfl rfl rfl rfl rfl (sW_o3 hb) ?_
  rw [sW_k]
  refine r_Kin_bog (sW_lk hb) (by omega) (by omega) (fun q hq => hsc _ q hA hq) ?_
  rw [← sW_k]
  show WP _ _ _ _ 111 [.ref b, .int (nI ac), .int (nI k), .int (nI (ac >>> 4 &&& 15)), .int (nI (ac &&& 15)), .int (nI 1), .int (nI 0)] [.int (nI (if 0 < mxS (pts ^^^ 1 <<< (ac >>> 4 &&& 15)) (sc (ac >>> 4 &&& 15)) 9 then mxS (pts ^^^ 1 <<< (ac >>> 4 &&& 15)) (sc (ac >>> 4 &&& 15)) 9 else rt (ac >>> 4 &&& 15))), .ref (b + 8)] (sW b pre (pts ^^^ 1 <<< (ac >>> 4 &&& 15)) edg nr rt sc wf ws bsz bop bbg ben suf)
  refine wq_iload_n rfl rfl ?_
  refine wq_virt (b := b + 8) (a := [.int (nI (if 0 < mxS (pts ^^^ 1 <<< (ac >>> 4 &&& 15)) (sc (ac >>> 4 &&& 15)) 9 then mxS (pts ^^^ 1 <<< (ac >>> 4 &&& 15)) (sc (ac >>> 4 &&& 15)) 9 else rt (ac >>> 4 &&& 15))), .int (nI k)]) (rest := []) rfl rfl rfl rfl rfl (sW_o8 hb) ?_
  rw [sW_b]
  refine r_Bars_add (sW_lb hb) hbs hbv (by have := hbeg; omega) (by omega) ?_
  intro p hp1 hp2 hp3
  rw [← sW_b]
  show WP _ _ _ _ 115 [.ref b, .int (nI ac), .int (nI k), .int (nI (ac >>> 4 &&& 15)), .int (nI (ac &&& 15)), .int (nI 1), .int (nI 0)] [] (sW b pre (pts ^^^ 1 <<< (ac >>> 4 &&& 15)) edg nr rt sc wf ws (bsz + 1) (if k = 99 then bop + 1 else bop) (inA bbg p bsz (if 0 < mxS (pts ^^^ 1 <<< (ac >>> 4 &&& 15)) (sc (ac >>> 4 &&& 15)) 9 then mxS (pts ^^^ 1 <<< (ac >>> 4 &&& 15)) (sc (ac >>> 4 &&& 15)) 9 else rt (ac >>> 4 &&& 15))) (inA ben p bsz k) suf)
  refine wq_aload_n rfl rfl ?_
  refine wq_getfield (v := .ref (b + 3)) rfl (sW_o0 hb) rfl ?_
  refine wq_iload_n rfl rfl ?_
  refine wq_virt (b := b + 3) (a := [.int (nI (ac >>> 4 &&& 15))]) (rest := []) rfl rfl rfl rfl rfl (sW_o3 hb) ?_
  rw [sW_k]
  refine r_Kin_go (sW_lk hb) (by omega) ?_
  rw [← sW_k]
  show WP _ _ _ _ 123 [.ref b, .int (nI ac), .int (nI k), .int (nI (ac >>> 4 &&& 15)), .int (nI (ac &&& 15)), .int (nI 1), .int (nI 0)] [] (sW b pre (pts ^^^ 1 <<< (ac >>> 4 &&& 15)) edg nr (uN' rt (ac >>> 4 &&& 15) 0) (kz sc (ac >>> 4 &&& 15) 9) wf ws (bsz + 1) (if k = 99 then bop + 1 else bop) (inA bbg p bsz (if 0 < mxS (pts ^^^ 1 <<< (ac >>> 4 &&& 15)) (sc (ac >>> 4 &&& 15)) 9 then mxS (pts ^^^ 1 <<< (ac >>> 4 &&& 15)) (sc (ac >>> 4 &&& 15)) 9 else rt (ac >>> 4 &&& 15))) (inA ben p bsz k) suf)
  refine wq_goto rfl ?_
  refine wq_vret rfl rfl ?_
  exact hQ p hp1 hp2 hp3
end
section
/-! Story: step of edges; open bars -/
theorem r_Sto_step2 {d b : Nat} {pre suf : mH} {pts : Nat} {edg : Nat} {nr : Nat → Nat} {rt : Nat → Nat} {sc : Nat → Nat → Nat} {wf : Nat → Nat} {ws : Nat → Nat} {bsz : Nat} {bop : Nat} {bbg : Nat → Nat} {ben : Nat → Nat} {Q : Option Value → mH → Prop} (hb : pre.length = b) {ac k : Nat} (hac : ac < 1024) (hA : ac >>> 4 &&& 15 < 9) (hB : ac &&& 15 < 9) (hk : k < 1000) (hpt : pts < 512) (hnr : ∀ p, p < 9 → nr p < 512) (hbs : bsz < 40) (hbv : ∀ i, i < 40 → bbg i < 2 ^ 31 ∧ ben i < 2 ^ 31) (hsc : ∀ p q, p < 9 → q < 9 → sc p q < 1000) (hrt : ∀ p, p < 9 → rt p < 1000) (hne : ac >>> 4 &&& 15 ≠ ac &&& 15) (hinA : pts.testBit (ac >>> 4 &&& 15) = true) (hinB : pts.testBit (ac &&& 15) = true) (hnx : ∀ p, p < 9 → (nrX nr (ac >>> 4 &&& 15) (ac &&& 15)) p < 512) (hκ : ac >>> 8 = 2) (hbit : (nr (ac >>> 4 &&& 15)).testBit (ac &&& 15) = false) (hb2 : ((nrX nr (ac >>> 4 &&& 15) (ac &&& 15)) (ac >>> 4 &&& 15)).testBit (ac &&& 15) = true) (hexJ : ∀ R J, IsR nr (ac >>> 4 &&& 15) R → R.testBit (ac &&& 15) = false → IsR (nrX nr (ac >>> 4 &&& 15) (ac &&& 15)) (ac >>> 4 &&& 15) J → ∀ p, p < 9 → sc (ac >>> 4 &&& 15) (ac &&& 15) < wv J (sc (ac >>> 4 &&& 15)) p → sc (ac >>> 4 &&& 15) (ac &&& 15) < wv J (sc (ac &&& 15)) p → False) (hQ1 : ∀ R, IsR nr (ac >>> 4 &&& 15) R → R.testBit (ac &&& 15) = true → Q none (sW b pre pts (edg + 1) (nrX nr (ac >>> 4 &&& 15) (ac &&& 15)) rt sc wf ws bsz bop bbg ben suf)) (hQ2 : ∀ R J, IsR nr (ac >>> 4 &&& 15) R → R.testBit (ac &&& 15) = false → IsR (nrX nr (ac >>> 4 &&& 15) (ac &&& 15)) (ac >>> 4 &&& 15) J → ∀ p, p ≤ bsz → (∀ i, p ≤ i → i < bsz → gtP (bbg i) (ben i) (if 0 < sc (ac >>> 4 &&& 15) (ac &&& 15) then sc (ac >>> 4 &&& 15) (ac &&& 15) else max (rt (ac >>> 4 &&& 15)) (rt (ac &&& 15))) k = true) → (p = 0 ∨ gtP (bbg (p - 1)) (ben (p - 1)) (if 0 < sc (ac >>> 4 &&& 15) (ac &&& 15) then sc (ac >>> 4 &&& 15) (ac &&& 15) else max (rt (ac >>> 4 &&& 15)) (rt (ac &&& 15))) k = false) → Q none (sW b pre pts (edg + 1) (nrX nr (ac >>> 4 &&& 15) (ac &&& 15)) (if sc (ac >>> 4 &&& 15) (ac &&& 15) = 0 then pw 9 (lR J (pw 9 (fun _ => true) (wv J (sc (ac >>> 4 &&& 15))) wf) (pw 9 (fun _ => true) (wv J (sc (ac &&& 15))) ws)) (fun _ => min (rt (ac >>> 4 &&& 15)) (rt (ac &&& 15))) rt else rt) (sj (sc (ac >>> 4 &&& 15) (ac &&& 15)) J (pw 9 (fun _ => true) (wv J (sc (ac >>> 4 &&& 15))) wf) (pw 9 (fun _ => true) (wv J (sc (ac &&& 15))) ws) sc 9) (pw 9 (fun _ => true) (wv J (sc (ac >>> 4 &&& 15))) wf) (pw 9 (fun _ => true) (wv J (sc (ac &&& 15))) ws) (bsz + 1) (if k = 99 then bop + 1 else bop) (inA bbg p bsz (if 0 < sc (ac >>> 4 &&& 15) (ac &&& 15) then sc (ac >>> 4 &&& 15) (ac &&& 15) else max (rt (ac >>> 4 &&& 15)) (rt (ac &&& 15)))) (inA ben p bsz k) suf)) : Rn mprog (d + 5) n_Sto_step [.ref b, .int (nI ac), .int (nI k)] (sW b pre pts edg nr rt sc wf ws bsz bop bbg ben suf) Q := by
  refine Rn.in rfl rfl rfl ?_
  show WP _ _ _ _ 0 [.ref b, .int (nI ac), .int (nI k), .long 0, .long 0, .long 0, .long 0] [] (sW b pre pts edg nr rt sc wf ws bsz bop bbg ben suf)
  have hκ2 : ac >>> 8 = 2 ∨ ac >>> 8 = 3 := Or.inl hκ
  have hj1 := hsc _ _ hA hB
  have hj2 := hrt _ hA
  have hj3 := hrt _ hB
  have hbeg : (if 0 < sc (ac >>> 4 &&& 15) (ac &&& 15) then sc (ac >>> 4 &&& 15) (ac &&& 15) else max (rt (ac >>> 4 &&& 15)) (rt (ac &&& 15))) < 1000 := by split <;> omega
  refine wq_iload_n rfl rfl ?_
  refine wq_stat (a := [.int (nI ac)]) (rest := []) rfl rfl rfl rfl rfl ?_
  refine r_Z_lowOf (by omega) ?_
  show WP _ _ _ _ 4 [.ref b, .int (nI ac), .int (nI k), .long 0, .long 0, .long 0, .long 0] [.int (nI (ac >>> 4 &&& 15))] (sW b pre pts edg nr rt sc wf ws bsz bop bbg ben suf)
  refine wq_istore_n (lv' := [.ref b, .int (nI ac), .int (nI k), .int (nI (ac >>> 4 &&& 15)), .long 0, .long 0, .long 0]) rfl rfl rfl ?_
  refine wq_iload_n rfl rfl ?_
  refine wq_stat (a := [.int (nI ac)]) (rest := []) rfl rfl rfl rfl rfl ?_
  refine r_Z_highOf ?_
  show WP _ _ _ _ 9 [.ref b, .int (nI ac), .int (nI k), .int (nI (ac >>> 4 &&& 15)), .long 0, .long 0, .long 0] [.int (nI (ac &&& 15))] (sW b pre pts edg nr rt sc wf ws bsz bop bbg ben suf)
  refine wq_istore (lv' := [.ref b, .int (nI ac), .int (nI k), .int (nI (ac >>> 4 &&& 15)), .int (nI (ac &&& 15)), .long 0, .long 0]) rfl rfl rfl ?_
  refine wq_aload_n rfl rfl ?_
  refine wq_getfield (v := .ref (b + 1)) rfl (sW_o0 hb) rfl ?_
  refine wq_iload_n rfl rfl ?_
  refine wq_virt (b := b + 1) (a := [.int (nI (ac >>> 4 &&& 15))]) (rest := []) rfl rfl rfl rfl rfl (sW_o1 hb) ?_
  rw [sW_n]
  refine r_Net_pieceOf (sW_ln hb) (by omega) hnr ?_ (by omega) hinA
  intro R hR
  have hRl := hR.1
  rw [← sW_n]
  show WP _ _ _ _ 19 [.ref b, .int (nI ac), .int (nI k), .int (nI (ac >>> 4 &&& 15)), .int (nI (ac &&& 15)), .long 0, .long 0] [.int (nI R)] (sW b pre pts edg nr rt sc wf ws bsz bop bbg ben suf)
  refine wq_iload rfl rfl ?_
  refine wq_stat (a := [.int (nI R), .int (nI (ac &&& 15))]) (rest := []) rfl rfl rfl rfl rfl ?_
  refine r_Z_isIn (by omega) (by omega) (fun c21 => ?_) (fun c21 => ?_)
  · skip
    show WP _ _ _ _ 24 [.ref b, .int (nI ac), .int (nI k), .int (nI (ac >>> 4 &&& 15)), .int (nI (ac &&& 15)), .long 0, .long 0] [.int (nI 1)] (sW b pre pts edg nr rt sc wf ws bsz bop bbg ben suf)
    refine wq_istore (lv' := [.ref b, .int (nI ac), .int (nI k), .int (nI (ac >>> 4 &&& 15)), .int (nI (ac &&& 15)), .int (nI 1), .long 0]) rfl rfl rfl ?_
    refine wq_aload_n rfl rfl ?_
    refine wq_getfield (v := .ref (b + 1)) rfl (sW_o0 hb) rfl ?_
    refine wq_iload_n rfl rfl ?_
    refine wq_virt (b := b + 1) (a := [.int (nI ac)]) (rest := []) rfl rfl rfl rfl rfl (sW_o1 hb) ?_
    rw [sW_n]
    refine r_Net_chg2 (sW_ln hb) hac hA hB hnr hκ2 hbit ?_
    rw [← sW_n]
    show WP _ _ _ _ 34 [.ref b, .int (nI ac), .int (nI k), .int (nI (ac >>> 4 &&& 15)), .int (nI (ac &&& 15)), .int (nI 1), .long 0] [] (sW b pre pts (edg + 1) (nrX nr (ac >>> 4 &&& 15) (ac &&& 15)) rt sc wf ws bsz bop bbg ben suf)
    refine wq_aload_n rfl rfl ?_
    refine wq_getfield (v := .ref (b + 1)) rfl (sW_o0 hb) rfl ?_
    refine wq_iload_n rfl rfl ?_
    refine wq_virt (b := b + 1) (a := [.int (nI (ac >>> 4 &&& 15))]) (rest := []) rfl rfl rfl rfl rfl (sW_o1 hb) ?_
    rw [sW_n]
    refine r_Net_pieceOf (sW_ln hb) (by omega) hnx ?_ (by omega) hinA
    intro R2 hR2
    have hR2l := hR2.1
    rw [← sW_n]
    show WP _ _ _ _ 42 [.ref b, .int (nI ac), .int (nI k), .int (nI (ac >>> 4 &&& 15)), .int (nI (ac &&& 15)), .int (nI 1), .long 0] [.int (nI R2)] (sW b pre pts (edg + 1) (nrX nr (ac >>> 4 &&& 15) (ac &&& 15)) rt sc wf ws bsz bop bbg ben suf)
    refine wq_iload rfl rfl ?_
    refine wq_stat (a := [.int (nI R2), .int (nI (ac &&& 15))]) (rest := []) rfl rfl rfl rfl rfl ?_
    refine r_Z_isIn (by omega) (by omega) (fun c44 => ?_) (fun c44 => absurd c44 (by rw [hR2.2.2.1 _ hA hR2.2.1 _ hb2]; decide))
    show WP _ _ _ _ 47 [.ref b, .int (nI ac), .int (nI k), .int (nI (ac >>> 4 &&& 15)), .int (nI (ac &&& 15)), .int (nI 1), .long 0] [.int (nI 1)] (sW b pre pts (edg + 1) (nrX nr (ac >>> 4 &&& 15) (ac &&& 15)) rt sc wf ws bsz bop bbg ben suf)
    refine wq_istore (lv' := [.ref b, .int (nI ac), .int (nI k), .int (nI (ac >>> 4 &&& 15)), .int (nI (ac &&& 15)), .int (nI 1), .int (nI 1)]) rfl rfl rfl ?_
    refine wq_iload_n rfl rfl ?_
    refine wq_stat (a := [.int (nI ac)]) (rest := []) rfl rfl rfl rfl rfl ?_
    refine r_Z_kindOf (by omega) ?_
    show WP _ _ _ _ 53 [.ref b, .int (nI ac), .int (nI k), .int (nI (ac >>> 4 &&& 15)), .int (nI (ac &&& 15)), .int (nI 1), .int (nI 1)] [.int (nI (ac >>> 8))] (sW b pre pts (edg + 1) (nrX nr (ac >>> 4 &&& 15) (ac &&& 15)) rt sc wf ws bsz bop bbg ben suf)
    refine wq_tsw (t := 126) rfl (by rw [hκ]; decide) ?_
    refine wq_iload rfl rfl ?_
    refine wq_if_ne rfl (fun _ => ?_) (fun c => absurd c (by decide))
    refine wq_vret rfl rfl ?_
    exact hQ1 R hR c21
  · skip
    show WP _ _ _ _ 24 [.ref b, .int (nI ac), .int (nI k), .int (nI (ac >>> 4 &&& 15)), .int (nI (ac &&& 15)), .long 0, .long 0] [.int (nI 0)] (sW b pre pts edg nr rt sc wf ws bsz bop bbg ben suf)
    refine wq_istore (lv' := [.ref b, .int (nI ac), .int (nI k), .int (nI (ac >>> 4 &&& 15)), .int (nI (ac &&& 15)), .int (nI 0), .long 0]) rfl rfl rfl ?_
    refine wq_aload_n rfl rfl ?_
    refine wq_getfield (v := .ref (b + 1)) rfl (sW_o0 hb) rfl ?_
    refine wq_iload_n rfl rfl ?_
    refine wq_virt (b := b + 1) (a := [.int (nI ac)]) (rest := []) rfl rfl rfl rfl rfl (sW_o1 hb) ?_
    rw [sW_n]
    refine r_Net_chg2 (sW_ln hb) hac hA hB hnr hκ2 hbit ?_
    rw [← sW_n]
    show WP _ _ _ _ 34 [.ref b, .int (nI ac), .int (nI k), .int (nI (ac >>> 4 &&& 15)), .int (nI (ac &&& 15)), .int (nI 0), .long 0] [] (sW b pre pts (edg + 1) (nrX nr (ac >>> 4 &&& 15) (ac &&& 15)) rt sc wf ws bsz bop bbg ben suf)
    refine wq_aload_n rfl rfl ?_
    refine wq_getfield (v := .ref (b + 1)) rfl (sW_o0 hb) rfl ?_
    refine wq_iload_n rfl rfl ?_
    refine wq_virt (b := b + 1) (a := [.int (nI (ac >>> 4 &&& 15))]) (rest := []) rfl rfl rfl rfl rfl (sW_o1 hb) ?_
    rw [sW_n]
    refine r_Net_pieceOf (sW_ln hb) (by omega) hnx ?_ (by omega) hinA
    intro R2 hR2
    have hR2l := hR2.1
    rw [← sW_n]
    show WP _ _ _ _ 42 [.ref b, .int (nI ac), .int (nI k), .int (nI (ac >>> 4 &&& 15)), .int (nI (ac &&& 15)), .int (nI 0), .long 0] [.int (nI R2)] (sW b pre pts (edg + 1) (nrX nr (ac >>> 4 &&& 15) (ac &&& 15)) rt sc wf ws bsz bop bbg ben suf)
    refine wq_iload rfl rfl ?_
    refine wq_stat (a := [.int (nI R2), .int (nI (ac &&& 15))]) (rest := []) rfl rfl rfl rfl rfl ?_
    refine r_Z_isIn (by omega) (by omega) (fun c44 => ?_) (fun c44 => absurd c44 (by rw [hR2.2.2.1 _ hA hR2.2.1 _ hb2]; decide))
    show WP _ _ _ _ 47 [.ref b, .int (nI ac), .int (nI k), .int (nI (ac >>> 4 &&& 15)), .int (nI (ac &&& 15)), .int (nI 0), .long 0] [.int (nI 1)] (sW b pre pts (edg + 1) (nrX nr (ac >>> 4 &&& 15) (ac &&& 15)) rt sc wf ws bsz bop bbg ben suf)
    refine wq_istore (lv' := [.ref b, .int (nI ac), .int (nI k), .int (nI (ac >>> 4 &&& 15)), .int (nI (ac &&& 15)), .int (nI 0), .int (nI 1)]) rfl rfl rfl ?_
    refine wq_iload_n rfl rfl ?_
    refine wq_stat (a := [.int (nI ac)]) (rest := []) rfl rfl rfl rfl rfl ?_
    refine r_Z_kindOf (by omega) ?_
    show WP _ _ _ _ 53 [.ref b, .int (nI ac), .int (nI k), .int (nI (ac >>> 4 &&& 15)), .int (nI (ac &&& 15)), .int (nI 0), .int (nI 1)] [.int (nI (ac >>> 8))] (sW b pre pts (edg + 1) (nrX nr (ac >>> 4 &&& 15) (ac &&& 15)) rt sc wf ws bsz bop bbg ben suf)
    refine wq_tsw (t := 126) rfl (by rw [hκ]; decide) ?_
    refine wq_iload rfl rfl ?_
    refine wq_if_ne rfl (fun c => absurd c (by decide)) (fun _ => ?_)
    refine wq_aload_n rfl rfl ?_
    refine wq_getfield (v := .ref (b + 8)) rfl (sW_o0 hb) rfl ?_
    refine wq_aload_n rfl rfl ?_
    refine wq_getfield (v := .ref (b + 3)) rfl (sW_o0 hb) rfl ?_
    refine wq_iload_n rfl rfl ?_
    refine wq_iload rfl rfl ?_
    refine wq_virt (b := b + 3) (a := [.int (nI (ac >>> 4 &&& 15)), .int (nI (ac &&& 15))]) (rest := [.ref (b + 8)]) rfl rfl rfl rfl rfl (sW_o3 hb) ?_
    rw [sW_k]
    refine r_Kin_boj (sW_lk hb) (by omega) (by omega) (hsc _ _ hA hB) (hrt _ hA) (hrt _ hB) ?_
    rw [← sW_k]
    show WP _ _ _ _ 145 [.ref b, .int (nI ac), .int (nI k), .int (nI (ac >>> 4 &&& 15)), .int (nI (ac &&& 15)), .int (nI 0), .int (nI 1)] [.int (nI (if 0 < sc (ac >>> 4 &&& 15) (ac &&& 15) then sc (ac >>> 4 &&& 15) (ac &&& 15) else max (rt (ac >>> 4 &&& 15)) (rt (ac &&& 15)))), .ref (b + 8)] (sW b pre pts (edg + 1) (nrX nr (ac >>> 4 &&& 15) (ac &&& 15)) rt sc wf ws bsz bop bbg ben suf)
    refine wq_iload_n rfl rfl ?_
    refine wq_virt (b := b + 8) (a := [.int (nI (if 0 < sc (ac >>> 4 &&& 15) (ac &&& 15) then sc (ac >>> 4 &&& 15) (ac &&& 15) else max (rt (ac >>> 4 &&& 15)) (rt (ac &&& 15)))), .int (nI k)]) (rest := []) rfl rfl rfl rfl rfl (sW_o8 hb) ?_
    rw [sW_b]
    refine r_Bars_add (sW_lb hb) hbs hbv (by have := hbeg; omega) (by omega) ?_
    intro p hp1 hp2 hp3
    rw [← sW_b]
    show WP _ _ _ _ 149 [.ref b, .int (nI ac), .int (nI k), .int (nI (ac >>> 4 &&& 15)), .int (nI (ac &&& 15)), .int (nI 0), .int (nI 1)] [] (sW b pre pts (edg + 1) (nrX nr (ac >>> 4 &&& 15) (ac &&& 15)) rt sc wf ws (bsz + 1) (if k = 99 then bop + 1 else bop) (inA bbg p bsz (if 0 < sc (ac >>> 4 &&& 15) (ac &&& 15) then sc (ac >>> 4 &&& 15) (ac &&& 15) else max (rt (ac >>> 4 &&& 15)) (rt (ac &&& 15)))) (inA ben p bsz k) suf)
    refine wq_aload_n rfl rfl ?_
    refine wq_getfield (v := .ref (b + 3)) rfl (sW_o0 hb) rfl ?_
    refine wq_iload_n rfl rfl ?_
    refine wq_iload rfl rfl ?_
    refine wq_aload_n rfl rfl ?_
    refine wq_getfield (v := .ref (b + 1)) rfl (sW_o0 hb) rfl ?_
    refine wq_iload_n rfl rfl ?_
    refine wq_virt (b := b + 1) (a := [.int (nI (ac >>> 4 &&& 15))]) (rest := [.int (nI (ac &&& 15)), .int (nI (ac >>> 4 &&& 15)), .ref (b + 3)]) rfl rfl rfl rfl rfl (sW_o1 hb) ?_
    rw [sW_n]
    refine r_Net_pieceOf (sW_ln hb) (by omega) hnx ?_ (by omega) hinA
    intro J hJ
    have hJl := hJ.1
    rw [← sW_n]
    show WP _ _ _ _ 164 [.ref b, .int (nI ac), .int (nI k), .int (nI (ac >>> 4 &&& 15)), .int (nI (ac &&& 15)), .int (nI 0), .int (nI 1)] [.int (nI J), .int (nI (ac &&& 15)), .int (nI (ac >>> 4 &&& 15)), .ref (b + 3)] (sW b pre pts (edg + 1) (nrX nr (ac >>> 4 &&& 15) (ac &&& 15)) rt sc wf ws (bsz + 1) (if k = 99 then bop + 1 else bop) (inA bbg p bsz (if 0 < sc (ac >>> 4 &&& 15) (ac &&& 15) then sc (ac >>> 4 &&& 15) (ac &&& 15) else max (rt (ac >>> 4 &&& 15)) (rt (ac &&& 15)))) (inA ben p bsz k) suf)
    refine wq_virt (b := b + 3) (a := [.int (nI (ac >>> 4 &&& 15)), .int (nI (ac &&& 15)), .int (nI J)]) (rest := []) rfl rfl rfl rfl rfl (sW_o3 hb) ?_
    rw [sW_k]
    refine r_Kin_join (sW_lk hb) (by omega) (by omega) (by omega) hsc hrt (hexJ R J hR c21 hJ) ?_
    rw [← sW_k]
    show WP _ _ _ _ 167 [.ref b, .int (nI ac), .int (nI k), .int (nI (ac >>> 4 &&& 15)), .int (nI (ac &&& 15)), .int (nI 0), .int (nI 1)] [] (sW b pre pts (edg + 1) (nrX nr (ac >>> 4 &&& 15) (ac &&& 15)) (if sc (ac >>> 4 &&& 15) (ac &&& 15) = 0 then pw 9 (lR J (pw 9 (fun _ => true) (wv J (sc (ac >>> 4 &&& 15))) wf) (pw 9 (fun _ => true) (wv J (sc (ac &&& 15))) ws)) (fun _ => min (rt (ac >>> 4 &&& 15)) (rt (ac &&& 15))) rt else rt) (sj (sc (ac >>> 4 &&& 15) (ac &&& 15)) J (pw 9 (fun _ => true) (wv J (sc (ac >>> 4 &&& 15))) wf) (pw 9 (fun _ => true) (wv J (sc (ac &&& 15))) ws) sc 9) (pw 9 (fun _ => true) (wv J (sc (ac >>> 4 &&& 15))) wf) (pw 9 (fun _ => true) (wv J (sc (ac &&& 15))) ws) (bsz + 1) (if k = 99 then bop + 1 else bop) (inA bbg p bsz (if 0 < sc (ac >>> 4 &&& 15) (ac &&& 15) then sc (ac >>> 4 &&& 15) (ac &&& 15) else max (rt (ac >>> 4 &&& 15)) (rt (ac &&& 15)))) (inA ben p bsz k) suf)
    refine wq_goto rfl ?_
    refine wq_vret rfl rfl ?_
    exact hQ2 R J hR c21 hJ p hp1 hp2 hp3
theorem r_Sto_step3 {d b : Nat} {pre suf : mH} {pts : Nat} {edg : Nat} {nr : Nat → Nat} {rt : Nat → Nat} {sc : Nat → Nat → Nat} {wf : Nat → Nat} {ws : Nat → Nat} {bsz : Nat} {bop : Nat} {bbg : Nat → Nat} {ben : Nat → Nat} {Q : Option Value → mH → Prop} (hb : pre.length = b) {ac k : Nat} (hac : ac < 1024) (hA : ac >>> 4 &&& 15 < 9) (hB : ac &&& 15 < 9) (hk : k < 1000) (hpt : pts < 512) (hnr : ∀ p, p < 9 → nr p < 512) (hbs : bsz < 40) (hbv : ∀ i, i < 40 → bbg i < 2 ^ 31 ∧ ben i < 2 ^ 31) (hsc : ∀ p q, p < 9 → q < 9 → sc p q < 1000) (hrt : ∀ p, p < 9 → rt p < 1000) (hne : ac >>> 4 &&& 15 ≠ ac &&& 15) (hinA : pts.testBit (ac >>> 4 &&& 15) = true) (hinB : pts.testBit (ac &&& 15) = true) (hnx : ∀ p, p < 9 → (nrX nr (ac >>> 4 &&& 15) (ac &&& 15)) p < 512) (hκ : ac >>> 8 = 3) (hedg : 0 < edg) (hbit : (nr (ac >>> 4 &&& 15)).testBit (ac &&& 15) = true) (hQ1 : ∀ R2, IsR (nrX nr (ac >>> 4 &&& 15) (ac &&& 15)) (ac >>> 4 &&& 15) R2 → R2.testBit (ac &&& 15) = true → Q none (sW b pre pts (edg - 1) (nrX nr (ac >>> 4 &&& 15) (ac &&& 15)) rt sc wf ws bsz bop bbg ben suf)) (hQ2 : ∀ R2 fi se, IsR (nrX nr (ac >>> 4 &&& 15) (ac &&& 15)) (ac >>> 4 &&& 15) R2 → R2.testBit (ac &&& 15) = false → IsR (nrX nr (ac >>> 4 &&& 15) (ac &&& 15)) (ac >>> 4 &&& 15) fi → IsR (nrX nr (ac >>> 4 &&& 15) (ac &&& 15)) (ac &&& 15) se → Q none (sW b pre pts (edg - 1) (nrX nr (ac >>> 4 &&& 15) (ac &&& 15)) rt (kP sc fi se k 9) wf ws bsz bop bbg ben suf)) : Rn mprog (d + 5) n_Sto_step [.ref b, .int (nI ac), .int (nI k)] (sW b pre pts edg nr rt sc wf ws bsz bop bbg ben suf) Q := by
  refine Rn.in rfl rfl rfl ?_
  show WP _ _ _ _ 0 [.ref b, .int (nI ac), .int (nI k), .long 0, .long 0, .long 0, .long 0] [] (sW b pre pts edg nr rt sc wf ws bsz bop bbg ben suf)
  have hκ2 : ac >>> 8 = 2 ∨ ac >>> 8 = 3 := Or.inr hκ
  refine wq_iload_n rfl rfl ?_
  refine wq_stat (a := [.int (nI ac)]) (rest := []) rfl rfl rfl rfl rfl ?_
  refine r_Z_lowOf (by omega) ?_
  show WP _ _ _ _ 4 [.ref b, .int (nI ac), .int (nI k), .long 0, .long 0, .long 0, .long 0] [.int (nI (ac >>> 4 &&& 15))] (sW b pre pts edg nr rt sc wf ws bsz bop bbg ben suf)
  refine wq_istore_n (lv' := [.ref b, .int (nI ac), .int (nI k), .int (nI (ac >>> 4 &&& 15)), .long 0, .long 0, .long 0]) rfl rfl rfl ?_
  refine wq_iload_n rfl rfl ?_
  refine wq_stat (a := [.int (nI ac)]) (rest := []) rfl rfl rfl rfl rfl ?_
  refine r_Z_highOf ?_
  show WP _ _ _ _ 9 [.ref b, .int (nI ac), .int (nI k), .int (nI (ac >>> 4 &&& 15)), .long 0, .long 0, .long 0] [.int (nI (ac &&& 15))] (sW b pre pts edg nr rt sc wf ws bsz bop bbg ben suf)
  refine wq_istore (lv' := [.ref b, .int (nI ac), .int (nI k), .int (nI (ac >>> 4 &&& 15)), .int (nI (ac &&& 15)), .long 0, .long 0]) rfl rfl rfl ?_
  refine wq_aload_n rfl rfl ?_
  refine wq_getfield (v := .ref (b + 1)) rfl (sW_o0 hb) rfl ?_
  refine wq_iload_n rfl rfl ?_
  refine wq_virt (b := b + 1) (a := [.int (nI (ac >>> 4 &&& 15))]) (rest := []) rfl rfl rfl rfl rfl (sW_o1 hb) ?_
  rw [sW_n]
  refine r_Net_pieceOf (sW_ln hb) (by omega) hnr ?_ (by omega) hinA
  intro R hR
  have hRl := hR.1
  rw [← sW_n]
  show WP _ _ _ _ 19 [.ref b, .int (nI ac), .int (nI k), .int (nI (ac >>> 4 &&& 15)), .int (nI (ac &&& 15)), .long 0, .long 0] [.int (nI R)] (sW b pre pts edg nr rt sc wf ws bsz bop bbg ben suf)
  refine wq_iload rfl rfl ?_
  refine wq_stat (a := [.int (nI R), .int (nI (ac &&& 15))]) (rest := []) rfl rfl rfl rfl rfl ?_
  refine r_Z_isIn (by omega) (by omega) (fun c21 => ?_) (fun c21 => absurd c21 (by rw [hR.2.2.1 _ hA hR.2.1 _ hbit]; decide))
  show WP _ _ _ _ 24 [.ref b, .int (nI ac), .int (nI k), .int (nI (ac >>> 4 &&& 15)), .int (nI (ac &&& 15)), .long 0, .long 0] [.int (nI 1)] (sW b pre pts edg nr rt sc wf ws bsz bop bbg ben suf)
  refine wq_istore (lv' := [.ref b, .int (nI ac), .int (nI k), .int (nI (ac >>> 4 &&& 15)), .int (nI (ac &&& 15)), .int (nI 1), .long 0]) rfl rfl rfl ?_
  refine wq_aload_n rfl rfl ?_
  refine wq_getfield (v := .ref (b + 1)) rfl (sW_o0 hb) rfl ?_
  refine wq_iload_n rfl rfl ?_
  refine wq_virt (b := b + 1) (a := [.int (nI ac)]) (rest := []) rfl rfl rfl rfl rfl (sW_o1 hb) ?_
  rw [sW_n]
  refine r_Net_chg3 (sW_ln hb) hac hA hB hnr hκ2 hbit hedg ?_
  rw [← sW_n]
  show WP _ _ _ _ 34 [.ref b, .int (nI ac), .int (nI k), .int (nI (ac >>> 4 &&& 15)), .int (nI (ac &&& 15)), .int (nI 1), .long 0] [] (sW b pre pts (edg - 1) (nrX nr (ac >>> 4 &&& 15) (ac &&& 15)) rt sc wf ws bsz bop bbg ben suf)
  refine wq_aload_n rfl rfl ?_
  refine wq_getfield (v := .ref (b + 1)) rfl (sW_o0 hb) rfl ?_
  refine wq_iload_n rfl rfl ?_
  refine wq_virt (b := b + 1) (a := [.int (nI (ac >>> 4 &&& 15))]) (rest := []) rfl rfl rfl rfl rfl (sW_o1 hb) ?_
  rw [sW_n]
  refine r_Net_pieceOf (sW_ln hb) (by omega) hnx ?_ (by omega) hinA
  intro R2 hR2
  have hR2l := hR2.1
  rw [← sW_n]
  show WP _ _ _ _ 42 [.ref b, .int (nI ac), .int (nI k), .int (nI (ac >>> 4 &&& 15)), .int (nI (ac &&& 15)), .int (nI 1), .long 0] [.int (nI R2)] (sW b pre pts (edg - 1) (nrX nr (ac >>> 4 &&& 15) (ac &&& 15)) rt sc wf ws bsz bop bbg ben suf)
  refine wq_iload rfl rfl ?_
  refine wq_stat (a := [.int (nI R2), .int (nI (ac &&& 15))]) (rest := []) rfl rfl rfl rfl rfl ?_
  refine r_Z_isIn (by omega) (by omega) (fun c44 => ?_) (fun c44 => ?_)
  · skip
    show WP _ _ _ _ 47 [.ref b, .int (nI ac), .int (nI k), .int (nI (ac >>> 4 &&& 15)), .int (nI (ac &&& 15)), .int (nI 1), .long 0] [.int (nI 1)] (sW b pre pts (edg - 1) (nrX nr (ac >>> 4 &&& 15) (ac &&& 15)) rt sc wf ws bsz bop bbg ben suf)
    refine wq_istore (lv' := [.ref b, .int (nI ac), .int (nI k), .int (nI (ac >>> 4 &&& 15)), .int (nI (ac &&& 15)), .int (nI 1), .int (nI 1)]) rfl rfl rfl ?_
    refine wq_iload_n rfl rfl ?_
    refine wq_stat (a := [.int (nI ac)]) (rest := []) rfl rfl rfl rfl rfl ?_
    refine r_Z_kindOf (by omega) ?_
    show WP _ _ _ _ 53 [.ref b, .int (nI ac), .int (nI k), .int (nI (ac >>> 4 &&& 15)), .int (nI (ac &&& 15)), .int (nI 1), .int (nI 1)] [.int (nI (ac >>> 8))] (sW b pre pts (edg - 1) (nrX nr (ac >>> 4 &&& 15) (ac &&& 15)) rt sc wf ws bsz bop bbg ben suf)
    refine wq_tsw (t := 170) rfl (by rw [hκ]; decide) ?_
    refine wq_iload rfl rfl ?_
    refine wq_if_ne rfl (fun _ => ?_) (fun c => absurd c (by decide))
    refine wq_vret rfl rfl ?_
    exact hQ1 R2 hR2 c44
  · skip
    show WP _ _ _ _ 47 [.ref b, .int (nI ac), .int (nI k), .int (nI (ac >>> 4 &&& 15)), .int (nI (ac &&& 15)), .int (nI 1), .long 0] [.int (nI 0)] (sW b pre pts (edg - 1) (nrX nr (ac >>> 4 &&& 15) (ac &&& 15)) rt sc wf ws bsz bop bbg ben suf)
    refine wq_istore (lv' := [.ref b, .int (nI ac), .int (nI k), .int (nI (ac >>> 4 &&& 15)), .int (nI (ac &&& 15)), .int (nI 1), .int (nI 0)]) rfl rfl rfl ?_
    refine wq_iload_n rfl rfl ?_
    refine wq_stat (a := [.int (nI ac)]) (rest := []) rfl rfl rfl rfl rfl ?_
    refine r_Z_kindOf (by omega) ?_
    show WP _ _ _ _ 53 [.ref b, .int (nI ac), .int (nI k), .int (nI (ac >>> 4 &&& 15)), .int (nI (ac &&& 15)), .int (nI 1), .int (nI 0)] [.int (nI (ac >>> 8))] (sW b pre pts (edg - 1) (nrX nr (ac >>> 4 &&& 15) (ac &&& 15)) rt sc wf ws bsz bop bbg ben suf)
    refine wq_tsw (t := 170) rfl (by rw [hκ]; decide) ?_
    refine wq_iload rfl rfl ?_
    refine wq_if_ne rfl (fun c => absurd c (by decide)) (fun _ => ?_)
    refine wq_aload_n rfl rfl ?_
    refine wq_getfield (v := .ref (b + 3)) rfl (sW_o0 hb) rfl ?_
    refine wq_aload_n rfl rfl ?_
    refine wq_getfield (v := .ref (b + 1)) rfl (sW_o0 hb) rfl ?_
    refine wq_iload_n rfl rfl ?_
    refine wq_virt (b := b + 1) (a := [.int (nI (ac >>> 4 &&& 15))]) (rest := [.ref (b + 3)]) rfl rfl rfl rfl rfl (sW_o1 hb) ?_
    rw [sW_n]
    refine r_Net_pieceOf (sW_ln hb) (by omega) hnx ?_ (by omega) hinA
    intro fi hfi
    have hfil := hfi.1
    rw [← sW_n]
    show WP _ _ _ _ 187 [.ref b, .int (nI ac), .int (nI k), .int (nI (ac >>> 4 &&& 15)), .int (nI (ac &&& 15)), .int (nI 1), .int (nI 0)] [.int (nI fi), .ref (b + 3)] (sW b pre pts (edg - 1) (nrX nr (ac >>> 4 &&& 15) (ac &&& 15)) rt sc wf ws bsz bop bbg ben suf)
    refine wq_aload_n rfl rfl ?_
    refine wq_getfield (v := .ref (b + 1)) rfl (sW_o0 hb) rfl ?_
    refine wq_iload rfl rfl ?_
    refine wq_virt (b := b + 1) (a := [.int (nI (ac &&& 15))]) (rest := [.int (nI fi), .ref (b + 3)]) rfl rfl rfl rfl rfl (sW_o1 hb) ?_
    rw [sW_n]
    refine r_Net_pieceOf (sW_ln hb) (by omega) hnx ?_ (by omega) hinB
    intro se hse
    have hsel := hse.1
    rw [← sW_n]
    show WP _ _ _ _ 196 [.ref b, .int (nI ac), .int (nI k), .int (nI (ac >>> 4 &&& 15)), .int (nI (ac &&& 15)), .int (nI 1), .int (nI 0)] [.int (nI se), .int (nI fi), .ref (b + 3)] (sW b pre pts (edg - 1) (nrX nr (ac >>> 4 &&& 15) (ac &&& 15)) rt sc wf ws bsz bop bbg ben suf)
    refine wq_iload_n rfl rfl ?_
    refine wq_virt (b := b + 3) (a := [.int (nI fi), .int (nI se), .int (nI k)]) (rest := []) rfl rfl rfl rfl rfl (sW_o3 hb) ?_
    rw [sW_k]
    refine r_Kin_part (sW_lk hb) (by omega) (by omega) ?_
    rw [← sW_k]
    show WP _ _ _ _ 200 [.ref b, .int (nI ac), .int (nI k), .int (nI (ac >>> 4 &&& 15)), .int (nI (ac &&& 15)), .int (nI 1), .int (nI 0)] [] (sW b pre pts (edg - 1) (nrX nr (ac >>> 4 &&& 15) (ac &&& 15)) rt (kP sc fi se k 9) wf ws bsz bop bbg ben suf)
    refine wq_vret rfl rfl ?_
    exact hQ2 R2 fi se hR2 c44 hfi hse
end
section
/-! bars as lists; open bars; play -/
/-- a bar comes into a row of bars (kept from its end): behind all that don't come behind it -/
def insR (x : Nat × Nat) : List (Nat × Nat) → List (Nat × Nat)
  | [] => [x]
  | y :: l => if gtP y.1 y.2 x.1 x.2 = true then y :: insR x l else x :: y :: l
theorem insR_len (x : Nat × Nat) : ∀ l, (insR x l).length = l.length + 1
  | [] => rfl
  | y :: l => by
    unfold insR
    split
    · rw [List.length_cons, insR_len x l, List.length_cons]
    · rfl
/-- two arrays hold the list, its last one first -/
def BL (nn : Nat) (f g : Nat → Nat) (l : List (Nat × Nat)) : Prop := l.length = nn ∧ ∀ i, i < nn → l[nn - 1 - i]? = some (f i, g i)
theorem BL_nil (f g : Nat → Nat) : BL 0 f g [] := ⟨rfl, fun i h => absurd h (Nat.not_lt_zero i)⟩
theorem inA_lo {f : Nat → Nat} {p nn x j : Nat} (h : j < p) : inA f p nn x j = f j := by
  unfold inA
  rw [uN_n (by omega), shA_lo (by omega)]
theorem inA_at {f : Nat → Nat} {p nn x : Nat} : inA f p nn x p = x := uN_s
theorem inA_hi {f : Nat → Nat} {p nn x j : Nat} (h : p < j) (h2 : j ≤ nn) : inA f p nn x j = f (j - 1) := by
  unfold inA
  rw [uN_n (by omega)]
  unfold shA
  rw [if_pos ⟨h, h2⟩]
theorem insR_at {x : Nat × Nat} : ∀ (l : List (Nat × Nat)) (q : Nat), q ≤ l.length → (∀ i y, i < q → l[i]? = some y → gtP y.1 y.2 x.1 x.2 = true) → (∀ y, l[q]? = some y → gtP y.1 y.2 x.1 x.2 = false) → insR x l = l.take q ++ x :: l.drop q
  | [], q, hq, _, _ => by
    have e : q = 0 := by simpa using hq
    subst e
    rfl
  | y :: l, 0, _, _, h2 => by
    unfold insR
    rw [if_neg (by rw [h2 y rfl]; decide)]
    rfl
  | y :: l, q + 1, hq, h1, h2 => by
    unfold insR
    rw [if_pos (h1 0 y (Nat.succ_pos q) rfl)]
    have ih := insR_at (x := x) l q (by simpa using hq) (fun i z hi hz => h1 (i + 1) z (by omega) (by simpa using hz)) (fun z hz => h2 z (by simpa using hz))
    rw [ih]
    rfl
theorem BL_ins {nn p x y : Nat} {f g : Nat → Nat} {l : List (Nat × Nat)} (h : BL nn f g l) (hp : p ≤ nn) (h1 : ∀ i, p ≤ i → i < nn → gtP (f i) (g i) x y = true) (h2 : p = 0 ∨ gtP (f (p - 1)) (g (p - 1)) x y = false) : BL (nn + 1) (inA f p nn x) (inA g p nn y) (insR (x, y) l) := by
  obtain ⟨hl, hg⟩ := h
  have e : insR (x, y) l = l.take (nn - p) ++ (x, y) :: l.drop (nn - p) := by
    refine insR_at l (nn - p) (by omega) ?_ ?_
    · intro i z hi hz
      have e1 := hg (nn - 1 - i) (by omega)
      have e2 : nn - 1 - (nn - 1 - i) = i := by omega
      rw [e2, hz] at e1
      cases e1
      exact h1 _ (by omega) (by omega)
    · intro z hz
      rcases h2 with h2 | h2
      · have : l[nn - p]? = none := List.getElem?_eq_none (by omega)
        rw [this] at hz
        cases hz
      · by_cases hp0 : p = 0
        · have : l[nn - p]? = none := List.getElem?_eq_none (by omega)
          rw [this] at hz
          cases hz
        · have e1 := hg (p - 1) (by omega)
          have e2 : nn - 1 - (p - 1) = nn - p := by omega
          rw [e2, hz] at e1
          cases e1
          exact h2
  refine ⟨by rw [insR_len, hl], fun i hi => ?_⟩
  rw [e]
  have hlt : (l.take (nn - p)).length = nn - p := by rw [List.length_take]; omega
  rcases Nat.lt_trichotomy i p with hc | hc | hc
  · rw [inA_lo hc, inA_lo hc, List.getElem?_append_right (by omega), hlt]
    have e2 : nn + 1 - 1 - i - (nn - p) = (p - i - 1) + 1 := by omega
    rw [e2, List.getElem?_cons_succ, List.getElem?_drop]
    have e3 : nn - p + (p - i - 1) = nn - 1 - i := by omega
    rw [e3]
    exact hg i (by omega)
  · subst hc
    rw [inA_at, inA_at, List.getElem?_append_right (by omega), hlt]
    have e2 : nn + 1 - 1 - i - (nn - i) = 0 := by omega
    rw [e2]
    rfl
  · rw [inA_hi hc (by omega), inA_hi hc (by omega), List.getElem?_append_left (by omega), List.getElem?_take, if_pos (by omega)]
    have e3 : nn + 1 - 1 - i = nn - 1 - (i - 1) := by omega
    rw [e3]
    exact hg (i - 1) (by omega)
/-- a point's piece -/
noncomputable def pOf (nr : Nat → Nat) (p : Nat) : Nat := @dite Nat (∃ R, IsR nr p R) (Classical.propDecidable _) (fun h => Classical.choose h) (fun _ => 0)
theorem IsR_uniq {nr : Nat → Nat} {p R S : Nat} (h1 : IsR nr p R) (h2 : IsR nr p S) : R = S := bits_eq fun t => ⟨fun q => h1.2.2.2 S h2.2.1 h2.2.2.1 t q, fun q => h2.2.2.2 R h1.2.1 h1.2.2.1 t q⟩
theorem IsR_pOf {nr : Nat → Nat} {p R : Nat} (h : IsR nr p R) : R = pOf nr p := by
  unfold pOf
  have hx : ∃ R, IsR nr p R := ⟨R, h⟩
  rw [dif_pos hx]
  exact IsR_uniq h (Classical.choose_spec hx)
/-- the bars that would end if all pieces of what is left went -/
noncomputable def opL (nr rt : Nat → Nat) (sc : Nat → Nat → Nat) : Nat → Nat → Nat → List (Nat × Nat)
  | 0, _, _ => []
  | m + 1, i, left => if left.testBit i = true then ((if 0 < mxS (nd left (pOf nr i)) (sc i) 9 then mxS (nd left (pOf nr i)) (sc i) 9 else rt i), 99) :: opL nr rt sc m (i + 1) (nd left (pOf nr i)) else opL nr rt sc m (i + 1) left
theorem inA_b {f : Nat → Nat} {p nn x : Nat} (hf : ∀ i, i < 40 → f i < 2 ^ 31) (hx : x < 2 ^ 31) (hp : p ≤ nn) (hn : nn < 40) : ∀ j, j < 40 → inA f p nn x j < 2 ^ 31 := by
  intro j hj
  unfold inA uN' shA
  split
  · exact hx
  · split
    · exact hf _ (by omega)
    · exact hf j hj
theorem l_Sto_open {d b : Nat} {pre suf : mH} {pts : Nat} {edg : Nat} {nr : Nat → Nat} {rt : Nat → Nat} {sc : Nat → Nat → Nat} {wf : Nat → Nat} {ws : Nat → Nat}  {Q : Option Value → mH → Prop} (hb : pre.length = b) (hpt : pts < 512) (hnr : ∀ p, p < 9 → nr p < 512) (hsc : ∀ p q, p < 9 → q < 9 → sc p q < 1000) (hrt : ∀ p, p < 9 → rt p < 1000) : ∀ (m i left : Nat) (rb : List (Nat × Nat)) (bsz bop : Nat) (bbg ben : Nat → Nat), i + m = 9 → left < 512 → (∀ t, left.testBit t = true → pts.testBit t = true) → BL bsz bbg ben rb → (∀ i, i < 40 → bbg i < 2 ^ 31 ∧ ben i < 2 ^ 31) → bsz + (opL nr rt sc m i left).length ≤ 40 → (∀ bsz2 bop2 bbg2 ben2, BL bsz2 bbg2 ben2 ((opL nr rt sc m i left).foldl (fun l x => insR x l) rb) → bop2 = bop + (opL nr rt sc m i left).length → (∀ i, i < 40 → bbg2 i < 2 ^ 31 ∧ ben2 i < 2 ^ 31) → Q none (sW b pre pts edg nr rt sc wf ws bsz2 bop2 bbg2 ben2 suf)) → WP (Rn mprog (d + 4)) k_Sto_addOpenBars none Q 10 [.ref b, .int (nI left), .int (nI i)] [] (sW b pre pts edg nr rt sc wf ws bsz bop bbg ben suf) := by
  intro m
  induction m with
  | zero =>
    intro i left rb bsz bop bbg ben hi hl9 hl hBL hbv hcap hQ
    have e : i = 9 := by omega
    subst e
    refine wq_iload_n rfl rfl ?_
    refine wq_bipush (v := nI 9) rfl (by decide) ?_
    refine wq_ic_ge rfl (fun _ => ?_) (fun c => absurd c (by decide))
    refine wq_vret rfl rfl ?_
    exact hQ bsz bop bbg ben hBL rfl hbv
  | succ m ih =>
    intro i left rb bsz bop bbg ben hi hl9 hl hBL hbv hcap hQ
    refine wq_iload_n rfl rfl ?_
    refine wq_bipush (v := nI 9) rfl (by decide) ?_
    refine wn_ic_ge rfl (by omega) (by omega) (fun c13 => absurd c13 (by omega)) (fun c13 => ?_)
    refine wq_iload_n rfl rfl ?_
    refine wq_iload_n rfl rfl ?_
    refine wq_stat (a := [.int (nI left), .int (nI i)]) (rest := []) rfl rfl rfl rfl rfl ?_
    refine r_Z_isIn (by omega) (by omega) (fun c18 => ?_) (fun c18 => ?_)
    · skip
      show WP _ _ _ _ 21 [.ref b, .int (nI left), .int (nI i)] [.int (nI 1)] (sW b pre pts edg nr rt sc wf ws bsz bop bbg ben suf)
      refine wq_if_eq rfl (fun c => absurd c (by decide)) (fun _ => ?_)
      have hcap1 : bsz < 40 := by
        unfold opL at hcap
        rw [if_pos c18, List.length_cons] at hcap
        omega
      refine wq_iload_n rfl rfl ?_
      refine wq_aload_n rfl rfl ?_
      refine wq_getfield (v := .ref (b + 1)) rfl (sW_o0 hb) rfl ?_
      refine wq_iload_n rfl rfl ?_
      refine wq_virt (b := b + 1) (a := [.int (nI i)]) (rest := [.int (nI left)]) rfl rfl rfl rfl rfl (sW_o1 hb) ?_
      rw [sW_n]
      refine r_Net_pieceOf (sW_ln hb) (by omega) hnr ?_ hpt (hl _ c18)
      intro R hR
      have hRl := hR.1
      have hRp := IsR_pOf hR
      have hnl := nd_lt (m := R) (n := 9) hl9
      have hm := mxS_le (oth := nd left R) (m := 999) (r := sc i) (fun q hq => by have := hsc i q (by omega) hq; omega) 9 (Nat.le_refl 9)
      have hri := hrt i (by omega)
      have hbeg : (if 0 < mxS (nd left R) (sc i) 9 then mxS (nd left R) (sc i) 9 else rt i) < 1000 := by split <;> omega
      rw [← sW_n]
      show WP _ _ _ _ 33 [.ref b, .int (nI left), .int (nI i)] [.int (nI R), .int (nI left)] (sW b pre pts edg nr rt sc wf ws bsz bop bbg ben suf)
      refine wq_iconst (v := (-1)) rfl (by decide) ?_
      refine wq_ixor (v := (nI R ^^^ (-1))) rfl rfl ?_
      refine wn_andn rfl ?_
      refine wq_istore_n (lv' := [.ref b, .int (nI (nd left R)), .int (nI i)]) rfl rfl rfl ?_
      refine wq_aload_n rfl rfl ?_
      refine wq_getfield (v := .ref (b + 8)) rfl (sW_o0 hb) rfl ?_
      refine wq_aload_n rfl rfl ?_
      refine wq_getfield (v := .ref (b + 3)) rfl (sW_o0 hb) rfl ?_
      refine wq_iload_n rfl rfl ?_
      refine wq_iload_n rfl rfl ?_
      refine wq_virt (b := b + 3) (a := [.int (nI i), .int (nI (nd left R))]) (rest := [.ref (b + 8)]) rfl rfl rfl rfl rfl (sW_o3 hb) ?_
      rw [sW_k]
      refine r_Kin_bog (sW_lk hb) (by omega) (by omega) (fun q hq => hsc _ q (by omega) hq) ?_
      rw [← sW_k]
      show WP _ _ _ _ 50 [.ref b, .int (nI (nd left R)), .int (nI i)] [.int (nI (if 0 < mxS (nd left R) (sc i) 9 then mxS (nd left R) (sc i) 9 else rt i)), .ref (b + 8)] (sW b pre pts edg nr rt sc wf ws bsz bop bbg ben suf)
      refine wq_bipush (v := nI 99) rfl (by decide) ?_
      refine wq_virt (b := b + 8) (a := [.int (nI (if 0 < mxS (nd left R) (sc i) 9 then mxS (nd left R) (sc i) 9 else rt i)), .int (nI 99)]) (rest := []) rfl rfl rfl rfl rfl (sW_o8 hb) ?_
      rw [sW_b]
      refine r_Bars_add (sW_lb hb) hcap1 hbv (by have := hbeg; omega) (by omega) ?_
      intro p hp1 hp2 hp3
      rw [← sW_b]
      show WP _ _ _ _ 55 [.ref b, .int (nI (nd left R)), .int (nI i)] [] (sW b pre pts edg nr rt sc wf ws (bsz + 1) (if 99 = 99 then bop + 1 else bop) (inA bbg p bsz (if 0 < mxS (nd left R) (sc i) 9 then mxS (nd left R) (sc i) 9 else rt i)) (inA ben p bsz 99) suf)
      refine wn_inc (lv' := [.ref b, .int (nI (nd left R)), .int (nI (i + 1))]) rfl rfl rfl ?_
      refine wq_goto rfl ?_
      rw [if_pos rfl]
      refine ih (i + 1) (nd left R) (insR (if 0 < mxS (nd left R) (sc i) 9 then mxS (nd left R) (sc i) 9 else rt i, 99) rb) (bsz + 1) (bop + 1) _ _ (by omega) hnl (fun t q => ?_) (BL_ins hBL hp1 hp2 hp3) ?_ ?_ ?_
      · rw [nd_bit, Bool.and_eq_true] at q
        exact hl t q.1
      · exact fun j hj => ⟨inA_b (fun t ht => (hbv t ht).1) (by omega) hp1 hcap1 j hj, inA_b (fun t ht => (hbv t ht).2) (by decide) hp1 hcap1 j hj⟩
      · rw [hRp]
        unfold opL at hcap
        rw [if_pos c18, List.length_cons] at hcap
        omega
      · intro bsz2 bop2 bbg2 ben2 g1 g2 g3
        refine hQ bsz2 bop2 bbg2 ben2 ?_ ?_ g3
        · unfold opL
          rw [if_pos c18, List.foldl_cons, ← hRp]
          exact g1
        · unfold opL
          rw [if_pos c18, List.length_cons, ← hRp]
          omega
    · skip
      show WP _ _ _ _ 21 [.ref b, .int (nI left), .int (nI i)] [.int (nI 0)] (sW b pre pts edg nr rt sc wf ws bsz bop bbg ben suf)
      refine wq_if_eq rfl (fun _ => ?_) (fun c => absurd c (by decide))
      refine wn_inc (lv' := [.ref b, .int (nI left), .int (nI (i + 1))]) rfl rfl rfl ?_
      refine wq_goto rfl ?_
      refine ih (i + 1) left rb bsz bop bbg ben (by omega) hl9 hl hBL hbv ?_ ?_
      · unfold opL at hcap
        rw [if_neg (by rw [c18]; decide)] at hcap
        exact hcap
      · intro bsz2 bop2 bbg2 ben2 g1 g2 g3
        refine hQ bsz2 bop2 bbg2 ben2 ?_ ?_ g3
        · unfold opL
          rw [if_neg (by rw [c18]; decide)]
          exact g1
        · unfold opL
          rw [if_neg (by rw [c18]; decide)]
          exact g2
end
section
/-! Graphs of nine points: what hangs together -/
def cn (nr : Nat → Nat) (p q : Nat) : Prop := ∀ S, S.testBit p = true → ClR nr S → S.testBit q = true
theorem cn_refl (nr : Nat → Nat) (p : Nat) : cn nr p p := fun _ h _ => h
theorem cn_trans {nr : Nat → Nat} {p q r : Nat} (h1 : cn nr p q) (h2 : cn nr q r) : cn nr p r := fun S a b => h2 S (h1 S a b) b
theorem cn_edge {nr : Nat → Nat} {p q : Nat} (hp : p < 9) (h : (nr p).testBit q = true) : cn nr p q := fun S a b => b p hp a q h
theorem cn_R {nr : Nat → Nat} {p q R : Nat} (h : IsR nr p R) : R.testBit q = true ↔ cn nr p q := ⟨fun a S b c => h.2.2.2 S b c q a, fun a => a R h.2.1 h.2.2.1⟩
/-- the set of the points below n of which something holds -/
noncomputable def mk9 (P : Nat → Prop) : Nat → Nat
  | 0 => 0
  | n + 1 => mk9 P n ||| @ite Nat (P n) (Classical.propDecidable _) (1 <<< n) 0
theorem mk9_bit {P : Nat → Prop} {t : Nat} : ∀ n, (mk9 P n).testBit t = true ↔ t < n ∧ P t
  | 0 => by
    unfold mk9
    rw [Nat.zero_testBit]
    simp
  | n + 1 => by
    unfold mk9
    rw [Nat.testBit_or, Bool.or_eq_true, mk9_bit n]
    by_cases h : P n
    · rw [if_pos h, sh_bit, decide_eq_true_eq]
      constructor
      · rintro (⟨h1, h2⟩ | h1)
        · exact ⟨by omega, h2⟩
        · subst h1; exact ⟨by omega, h⟩
      · rintro ⟨h1, h2⟩
        by_cases e : t = n
        · exact Or.inr e
        · exact Or.inl ⟨by omega, h2⟩
    · rw [if_neg h, Nat.zero_testBit]
      constructor
      · rintro (⟨h1, h2⟩ | h1)
        · exact ⟨by omega, h2⟩
        · cases h1
      · rintro ⟨h1, h2⟩
        refine Or.inl ⟨?_, h2⟩
        by_cases e : t = n
        · subst e; exact absurd h2 h
        · omega
theorem mk9_lt (P : Nat → Prop) : mk9 P 9 < 512 := lt_of_bits (n := 9) fun i hi => by
  cases e : (mk9 P 9).testBit i
  · rfl
  · have := ((mk9_bit 9).mp e).1; omega
/-- a graph: edges both ways, no edge to itself, within the nine -/
def Gr (nr : Nat → Nat) : Prop := (∀ p, p < 9 → nr p < 512) ∧ (∀ p q, p < 9 → q < 9 → (nr p).testBit q = true → (nr q).testBit p = true) ∧ ∀ p, p < 9 → (nr p).testBit p = false
theorem Gr_lt {nr : Nat → Nat} (g : Gr nr) {p q : Nat} (hp : p < 9) (h : (nr p).testBit q = true) : q < 9 := lt9 (g.1 p hp) h
theorem cn_lt {nr : Nat → Nat} (g : Gr nr) {p q : Nat} (hp : p < 9) (h : cn nr p q) : q < 9 := by
  have h1 := h (mk9 (fun _ => True) 9) ((mk9_bit 9).mpr ⟨hp, trivial⟩) (fun x hx _ t ht => (mk9_bit 9).mpr ⟨Gr_lt g hx ht, trivial⟩)
  exact ((mk9_bit 9).mp h1).1
theorem cn_symm {nr : Nat → Nat} (g : Gr nr) {p q : Nat} (hp : p < 9) (h : cn nr p q) : cn nr q p := by
  intro S a b
  by_cases e : S.testBit p = true
  · exact e
  · have h1 := h (mk9 (fun t => ¬ S.testBit t = true) 9) ((mk9_bit 9).mpr ⟨hp, e⟩) (fun x hx hx2 t ht => by
      obtain ⟨-, hx3⟩ := (mk9_bit 9).mp hx2
      have ht9 := Gr_lt g hx ht
      exact (mk9_bit 9).mpr ⟨ht9, fun q => hx3 (b t ht9 q x (g.2.1 x t hx ht9 ht))⟩)
    exact absurd a ((mk9_bit 9).mp h1).2
theorem IsR_ex {nr : Nat → Nat} (g : Gr nr) {p : Nat} (hp : p < 9) : IsR nr p (mk9 (cn nr p) 9) := by
  refine ⟨mk9_lt _, (mk9_bit 9).mpr ⟨hp, cn_refl nr p⟩, fun x hx hx2 t ht => ?_, fun S a b t ht => ((mk9_bit 9).mp ht).2 S a b⟩
  exact (mk9_bit 9).mpr ⟨Gr_lt g hx ht, cn_trans ((mk9_bit 9).mp hx2).2 (cn_edge hx ht)⟩
theorem pOf_bit {nr : Nat → Nat} (g : Gr nr) {p q : Nat} (hp : p < 9) : (pOf nr p).testBit q = true ↔ cn nr p q := by
  rw [← IsR_pOf (IsR_ex g hp)]
  exact cn_R (IsR_ex g hp)
/-- two graphs that differ by the edge of A and B -/
def EdX (nr nr' : Nat → Nat) (A B : Nat) : Prop := ∀ p q, p < 9 → ((nr' p).testBit q = true ↔ (nr p).testBit q = true ∨ (p = A ∧ q = B) ∨ (p = B ∧ q = A))
theorem cn_more {nr nr' : Nat → Nat} {A B p q : Nat} (h : EdX nr nr' A B) (hc : cn nr p q) : cn nr' p q := fun S a b => hc S a (fun x hx hx2 t ht => b x hx hx2 t ((h x t hx).mpr (Or.inl ht)))
theorem cn_add {nr nr' : Nat → Nat} {A B p q : Nat} (g : Gr nr) (g' : Gr nr') (hA : A < 9) (hB : B < 9) (h : EdX nr nr' A B) (hp : p < 9) : cn nr' p q ↔ cn nr p q ∨ (cn nr p A ∧ cn nr B q) ∨ (cn nr p B ∧ cn nr A q) := by
  have eAB : cn nr' A B := cn_edge hA ((h A B hA).mpr (Or.inr (Or.inl ⟨rfl, rfl⟩)))
  have eBA : cn nr' B A := cn_edge hB ((h B A hB).mpr (Or.inr (Or.inr ⟨rfl, rfl⟩)))
  constructor
  · intro hc
    have h1 := hc (mk9 (fun t => cn nr p t ∨ (cn nr p A ∧ cn nr B t) ∨ (cn nr p B ∧ cn nr A t)) 9) ((mk9_bit 9).mpr ⟨hp, Or.inl (cn_refl nr p)⟩) (fun x hx hx2 t ht => by
      obtain ⟨-, hx3⟩ := (mk9_bit 9).mp hx2
      refine (mk9_bit 9).mpr ⟨Gr_lt g' hx ht, ?_⟩
      rcases (h x t hx).mp ht with e | ⟨e1, e2⟩ | ⟨e1, e2⟩
      · have e3 := cn_edge hx e
        rcases hx3 with r | ⟨r1, r2⟩ | ⟨r1, r2⟩
        · exact Or.inl (cn_trans r e3)
        · exact Or.inr (Or.inl ⟨r1, cn_trans r2 e3⟩)
        · exact Or.inr (Or.inr ⟨r1, cn_trans r2 e3⟩)
      · subst e1; subst e2
        rcases hx3 with r | ⟨r1, r2⟩ | ⟨r1, r2⟩
        · exact Or.inr (Or.inl ⟨r, cn_refl nr t⟩)
        · exact Or.inr (Or.inl ⟨r1, cn_refl nr t⟩)
        · exact Or.inl r1
      · subst e1; subst e2
        rcases hx3 with r | ⟨r1, r2⟩ | ⟨r1, r2⟩
        · exact Or.inr (Or.inr ⟨r, cn_refl nr t⟩)
        · exact Or.inl r1
        · exact Or.inr (Or.inr ⟨r1, cn_refl nr t⟩))
    exact ((mk9_bit 9).mp h1).2
  · rintro (r | ⟨r1, r2⟩ | ⟨r1, r2⟩)
    · exact cn_more h r
    · exact cn_trans (cn_more h r1) (cn_trans eAB (cn_more h r2))
    · exact cn_trans (cn_more h r1) (cn_trans eBA (cn_more h r2))
/-- an edge changed -/
theorem nrX_bit {nr : Nat → Nat} {A B p q : Nat} (hne : A ≠ B) : (nrX nr A B p).testBit q = ((nr p).testBit q ^^ (decide (p = A ∧ q = B) || decide (p = B ∧ q = A))) := by
  unfold nrX
  by_cases hB : p = B
  · subst hB
    rw [uN_s, uN_n (by omega), Nat.testBit_xor, sh_bit]
    have e1 : decide (p = A ∧ q = p) = false := decide_eq_false (by omega)
    have e2 : decide (p = p ∧ q = A) = decide (q = A) := by simp
    rw [e1, e2, Bool.false_or]
  · rw [uN_n hB]
    by_cases hA : p = A
    · subst hA
      rw [uN_s, Nat.testBit_xor, sh_bit]
      have e1 : decide (p = B ∧ q = p) = false := decide_eq_false (by omega)
      have e2 : decide (p = p ∧ q = B) = decide (q = B) := by simp
      rw [e1, e2, Bool.or_false]
    · rw [uN_n hA]
      have e1 : decide (p = A ∧ q = B) = false := decide_eq_false (by omega)
      have e2 : decide (p = B ∧ q = A) = false := decide_eq_false (by omega)
      rw [e1, e2]
      simp
theorem nrX_on {nr : Nat → Nat} {A B : Nat} (g : Gr nr) (hA : A < 9) (hB : B < 9) (hne : A ≠ B) (h : (nr A).testBit B = false) : EdX nr (nrX nr A B) A B := by
  have h2 : (nr B).testBit A = false := by
    cases e : (nr B).testBit A
    · rfl
    · rw [g.2.1 B A hB hA e] at h; cases h
  intro p q hp
  rw [nrX_bit hne]
  by_cases e1 : p = A ∧ q = B
  · obtain ⟨rfl, rfl⟩ := e1
    simp [h]
  · by_cases e2 : p = B ∧ q = A
    · obtain ⟨rfl, rfl⟩ := e2
      simp [h2]
    · rw [decide_eq_false e1, decide_eq_false e2]
      simp only [Bool.or_false, Bool.xor_false]
      constructor
      · exact Or.inl
      · rintro (r | r | r)
        · exact r
        · exact absurd r e1
        · exact absurd r e2
theorem nrX_off {nr : Nat → Nat} {A B : Nat} (g : Gr nr) (hA : A < 9) (hB : B < 9) (hne : A ≠ B) (h : (nr A).testBit B = true) : EdX (nrX nr A B) nr A B := by
  have h2 : (nr B).testBit A = true := g.2.1 A B hA hB h
  intro p q hp
  rw [nrX_bit hne]
  by_cases e1 : p = A ∧ q = B
  · obtain ⟨rfl, rfl⟩ := e1
    simp [h]
  · by_cases e2 : p = B ∧ q = A
    · obtain ⟨rfl, rfl⟩ := e2
      simp [h2]
    · rw [decide_eq_false e1, decide_eq_false e2]
      simp only [Bool.or_false, Bool.xor_false]
      constructor
      · exact Or.inl
      · rintro (r | r | r)
        · exact r
        · exact absurd r e1
        · exact absurd r e2
theorem nrX_Gr {nr : Nat → Nat} {A B : Nat} (g : Gr nr) (hA : A < 9) (hB : B < 9) (hne : A ≠ B) : Gr (nrX nr A B) := by
  refine ⟨fun p hp => ?_, fun p q hp hq h => ?_, fun p hp => ?_⟩
  · refine lt_of_bits (n := 9) fun i hi => ?_
    rw [nrX_bit hne, bit_lt (n := 9) (g.1 p hp) hi, decide_eq_false (by omega), decide_eq_false (by omega)]
    rfl
  · rw [nrX_bit hne] at h ⊢
    have e : (nr q).testBit p = (nr p).testBit q := by
      cases e1 : (nr p).testBit q
      · cases e2 : (nr q).testBit p
        · rfl
        · rw [g.2.1 q p hq hp e2] at e1; cases e1
      · exact g.2.1 p q hp hq e1
    rw [e]
    have e3 : (decide (q = A ∧ p = B) || decide (q = B ∧ p = A)) = (decide (p = A ∧ q = B) || decide (p = B ∧ q = A)) := by
      rw [Bool.or_comm]
      congr 1
      · exact decide_eq_decide.mpr ⟨fun r => ⟨r.2, r.1⟩, fun r => ⟨r.2, r.1⟩⟩
      · exact decide_eq_decide.mpr ⟨fun r => ⟨r.2, r.1⟩, fun r => ⟨r.2, r.1⟩⟩
    rw [e3]
    exact h
  · rw [nrX_bit hne, g.2.2 p hp, decide_eq_false (by omega), decide_eq_false (by omega)]
    rfl
end
section
/-! What holds of a story: kin is an ultrametric on pieces -/
def TI (pts : Nat) (nr rt : Nat → Nat) (sc : Nat → Nat → Nat) (k : Nat) : Prop :=
  pts < 512 ∧ Gr nr ∧ (∀ p q, p < 9 → (nr p).testBit q = true → pts.testBit p = true) ∧
  (∀ p q, p < 9 → q < 9 → sc p q = sc q p) ∧
  (∀ p q, p < 9 → q < 9 → 0 < sc p q → pts.testBit p = true ∧ ¬ cn nr p q) ∧
  (∀ p p' q, p < 9 → p' < 9 → q < 9 → cn nr p p' → sc p q = sc p' q) ∧
  (∀ p q r, p < 9 → q < 9 → r < 9 → ¬ cn nr p r → min (sc p q) (sc q r) ≤ sc p r) ∧
  (∀ p q, p < 9 → q < 9 → (cn nr p q ∨ 0 < sc p q) → rt p = rt q) ∧
  (∀ p q, p < 9 → q < 9 → sc p q ≤ k) ∧ (∀ p, p < 9 → rt p ≤ k) ∧ ∀ p, p < 9 → pts.testBit p = true → 1 ≤ rt p
theorem cn_iso {nr : Nat → Nat} {A q : Nat} (h : ∀ t, (nr A).testBit t = false) (hc : cn nr A q) : q = A := by
  have h1 := hc (1 <<< A) (by simp [sh_bit]) (fun x _ hx t ht => by
    rw [sh_bit, decide_eq_true_eq] at hx
    rw [hx, h t] at ht
    cases ht)
  rw [sh_bit, decide_eq_true_eq] at h1
  exact h1
theorem TI_0 {nr rt : Nat → Nat} {sc : Nat → Nat → Nat} (h1 : ∀ p, p < 9 → nr p = 0) (h2 : ∀ p, p < 9 → rt p = 0) (h3 : ∀ p q, p < 9 → q < 9 → sc p q = 0) : TI 0 nr rt sc 0 := by
  have z : ∀ t, ¬ (0 : Nat).testBit t = true := fun t => by rw [Nat.zero_testBit]; decide
  refine ⟨by decide, ⟨fun p hp => by rw [h1 p hp]; decide, fun p q hp _ h => ?_, fun p hp => by rw [h1 p hp]; exact Nat.zero_testBit p⟩, fun p q hp h => ?_, fun p q hp hq => by rw [h3 p q hp hq, h3 q p hq hp], fun p q hp hq h => ?_, fun p p' q hp hp' hq _ => by rw [h3 p q hp hq, h3 p' q hp' hq], fun p q r hp hq hr _ => by rw [h3 p q hp hq]; omega, fun p q hp hq _ => by rw [h2 p hp, h2 q hq], fun p q hp hq => by rw [h3 p q hp hq]; exact Nat.le_refl 0, fun p hp => by rw [h2 p hp]; exact Nat.le_refl 0, fun p _ h => absurd h (z _)⟩
  · rw [h1 p hp] at h
    exact absurd h (z _)
  · rw [h1 p hp] at h
    exact absurd h (z _)
  · rw [h3 p q hp hq] at h
    omega
theorem xor_bit {pts A t : Nat} : (pts ^^^ 1 <<< A).testBit t = (pts.testBit t ^^ decide (t = A)) := by rw [Nat.testBit_xor, sh_bit]
theorem xor_lt {pts A : Nat} (h : pts < 512) (hA : A < 9) : pts ^^^ 1 <<< A < 512 := Nat.xor_lt_two_pow (n := 9) h (sh_lt hA)
theorem TI_iso {pts A : Nat} {nr rt : Nat → Nat} {sc : Nat → Nat → Nat} {k : Nat} (h : TI pts nr rt sc k) (hA : A < 9) (ha : pts.testBit A = false) : ∀ t, (nr A).testBit t = false := fun t => by
  cases e : (nr A).testBit t
  · rfl
  · rw [h.2.2.1 A t hA e] at ha; cases ha
/-- a point comes -/
theorem TI_come {pts A k : Nat} {nr rt : Nat → Nat} {sc : Nat → Nat → Nat} (h : TI pts nr rt sc k) (hA : A < 9) (ha : pts.testBit A = false) : TI (pts ^^^ 1 <<< A) nr (uN' rt A (k + 1)) sc (k + 1) := by
  have iso := TI_iso h hA ha
  obtain ⟨i1, i2, i3, i4, i5, i6, i7, i8, i9, i10, i11⟩ := h
  have up : ∀ t, pts.testBit t = true → (pts ^^^ 1 <<< A).testBit t = true := fun t q => by
    have e : t ≠ A := fun e => by rw [e, ha] at q; cases q
    rw [xor_bit, q, decide_eq_false e]
    rfl
  have s0 : ∀ q, q < 9 → sc A q = 0 := fun q hq => by
    rcases Nat.eq_zero_or_pos (sc A q) with e | e
    · exact e
    · rw [(i5 A q hA hq e).1] at ha; cases ha
  refine ⟨xor_lt i1 hA, i2, fun p q hp hb => up p (i3 p q hp hb), i4, fun p q hp hq hs => ⟨up p (i5 p q hp hq hs).1, (i5 p q hp hq hs).2⟩, i6, i7, ?_, fun p q hp hq => Nat.le_succ_of_le (i9 p q hp hq), ?_, ?_⟩
  · intro p q hp hq hc
    by_cases e1 : p = A
    · subst e1
      rcases hc with hc | hc
      · rw [cn_iso iso hc]
      · rw [s0 q hq] at hc; omega
    · by_cases e2 : q = A
      · subst e2
        rcases hc with hc | hc
        · exact absurd (cn_iso iso (cn_symm i2 hp hc)) e1
        · rw [i4 p q hp hq, s0 p hp] at hc; omega
      · rw [uN_n e1, uN_n e2]
        exact i8 p q hp hq hc
  · intro p hp
    by_cases e1 : p = A
    · rw [e1, uN_s]; exact Nat.le_refl _
    · rw [uN_n e1]; exact Nat.le_succ_of_le (i10 p hp)
  · intro p hp hb
    by_cases e1 : p = A
    · rw [e1, uN_s]; omega
    · rw [uN_n e1]
      rw [xor_bit, decide_eq_false e1, Bool.xor_false] at hb
      exact i11 p hp hb
/-- a point goes -/
theorem TI_go {pts A k : Nat} {nr rt : Nat → Nat} {sc : Nat → Nat → Nat} (h : TI pts nr rt sc k) (hA : A < 9) (ha : pts.testBit A = true) (hn : nr A = 0) : TI (pts ^^^ 1 <<< A) nr (uN' rt A 0) (kz sc A 9) (k + 1) := by
  have iso : ∀ t, (nr A).testBit t = false := fun t => by rw [hn]; exact Nat.zero_testBit t
  obtain ⟨i1, i2, i3, i4, i5, i6, i7, i8, i9, i10, i11⟩ := h
  have kA : ∀ p q, p < 9 → q < 9 → (p = A ∨ q = A) → kz sc A 9 p q = 0 := fun p q hp hq e => by
    unfold kz
    rw [if_pos]
    rcases e with e | e
    · exact Or.inl ⟨e, hq⟩
    · exact Or.inr ⟨e, hp⟩
  have kN : ∀ p q, p ≠ A → q ≠ A → kz sc A 9 p q = sc p q := fun p q e1 e2 => by
    unfold kz
    rw [if_neg (by omega)]
  have up : ∀ t, t ≠ A → pts.testBit t = true → (pts ^^^ 1 <<< A).testBit t = true := fun t e q => by
    rw [xor_bit, q, decide_eq_false e]
    rfl
  refine ⟨xor_lt i1 hA, i2, ?_, ?_, ?_, ?_, ?_, ?_, ?_, ?_, ?_⟩
  · intro p q hp hb
    refine up p (fun e => ?_) (i3 p q hp hb)
    rw [e, iso q] at hb
    cases hb
  · intro p q hp hq
    by_cases e : p = A ∨ q = A
    · rw [kA p q hp hq e, kA q p hq hp e.symm]
    · rw [kN p q (fun z => e (Or.inl z)) (fun z => e (Or.inr z)), kN q p (fun z => e (Or.inr z)) (fun z => e (Or.inl z))]
      exact i4 p q hp hq
  · intro p q hp hq hs
    by_cases e : p = A ∨ q = A
    · rw [kA p q hp hq e] at hs; omega
    · rw [kN p q (fun z => e (Or.inl z)) (fun z => e (Or.inr z))] at hs
      exact ⟨up p (fun z => e (Or.inl z)) (i5 p q hp hq hs).1, (i5 p q hp hq hs).2⟩
  · intro p p' q hp hp' hq hc
    by_cases e1 : p = A
    · subst e1
      rw [cn_iso iso hc]
    · have e2 : p' ≠ A := fun z => by
        subst z
        exact e1 (cn_iso iso (cn_symm i2 hp hc))
      by_cases e3 : q = A
      · rw [kA p q hp hq (Or.inr e3), kA p' q hp' hq (Or.inr e3)]
      · rw [kN p q e1 e3, kN p' q e2 e3]
        exact i6 p p' q hp hp' hq hc
  · intro p q r hp hq hr hc
    by_cases e1 : p = A ∨ q = A
    · rw [kA p q hp hq e1]; omega
    · by_cases e2 : q = A ∨ r = A
      · rw [kA q r hq hr e2]; omega
      · rw [kN p q (by omega) (by omega), kN q r (by omega) (by omega), kN p r (by omega) (by omega)]
        exact i7 p q r hp hq hr hc
  · intro p q hp hq hc
    by_cases e1 : p = A
    · subst e1
      rcases hc with hc | hc
      · rw [cn_iso iso hc]
      · rw [kA p q hp hq (Or.inl rfl)] at hc; omega
    · by_cases e2 : q = A
      · subst e2
        rcases hc with hc | hc
        · exact absurd (cn_iso iso (cn_symm i2 hp hc)) e1
        · rw [kA p q hp hq (Or.inr rfl)] at hc; omega
      · rw [uN_n e1, uN_n e2]
        rw [kN p q e1 e2] at hc
        exact i8 p q hp hq hc
  · intro p q hp hq
    by_cases e : p = A ∨ q = A
    · rw [kA p q hp hq e]; omega
    · rw [kN p q (by omega) (by omega)]
      exact Nat.le_succ_of_le (i9 p q hp hq)
  · intro p hp
    by_cases e1 : p = A
    · rw [e1, uN_s]; omega
    · rw [uN_n e1]; exact Nat.le_succ_of_le (i10 p hp)
  · intro p hp hb
    by_cases e1 : p = A
    · rw [e1, xor_bit, ha, decide_eq_true rfl] at hb
      cases hb
    · rw [uN_n e1]
      rw [xor_bit, decide_eq_false e1, Bool.xor_false] at hb
      exact i11 p hp hb
/-- an edge of a loop comes or goes -/
theorem cn_loop {nr nr' : Nat → Nat} {A B p q : Nat} (g : Gr nr) (g' : Gr nr') (hA : A < 9) (hB : B < 9) (h : EdX nr nr' A B) (hc : cn nr A B) (hp : p < 9) : cn nr' p q ↔ cn nr p q := by
  rw [cn_add g g' hA hB h hp]
  constructor
  · rintro (r | ⟨r1, r2⟩ | ⟨r1, r2⟩)
    · exact r
    · exact cn_trans r1 (cn_trans hc r2)
    · exact cn_trans r1 (cn_trans (cn_symm g hA hc) r2)
  · exact Or.inl
theorem TI_same {pts k : Nat} {nr nr' rt : Nat → Nat} {sc : Nat → Nat → Nat} (h : TI pts nr rt sc k) (g' : Gr nr') (hs : ∀ p q, p < 9 → (nr' p).testBit q = true → pts.testBit p = true) (hc : ∀ p q, p < 9 → (cn nr' p q ↔ cn nr p q)) : TI pts nr' rt sc (k + 1) := by
  obtain ⟨i1, i2, i3, i4, i5, i6, i7, i8, i9, i10, i11⟩ := h
  exact ⟨i1, g', hs, i4, fun p q hp hq z => ⟨(i5 p q hp hq z).1, fun y => (i5 p q hp hq z).2 ((hc p q hp).mp y)⟩, fun p p' q hp hp' hq z => i6 p p' q hp hp' hq ((hc p p' hp).mp z), fun p q r hp hq hr z => i7 p q r hp hq hr (fun y => z ((hc p r hp).mpr y)), fun p q hp hq z => i8 p q hp hq (z.elim (fun y => Or.inl ((hc p q hp).mp y)) Or.inr), fun p q hp hq => Nat.le_succ_of_le (i9 p q hp hq), fun p hp => Nat.le_succ_of_le (i10 p hp), i11⟩
/-- a piece falls into two: nr' is the graph without the edge, nr that with it -/
theorem TI_part {pts A B k fi se : Nat} {nr nr' rt : Nat → Nat} {sc : Nat → Nat → Nat} (h : TI pts nr rt sc k) (g' : Gr nr') (hA : A < 9) (hB : B < 9) (hx : EdX nr' nr A B) (hn : ¬ cn nr' A B) (hf : ∀ x, fi.testBit x = true ↔ cn nr' A x) (hs : ∀ x, se.testBit x = true ↔ cn nr' B x) : TI pts nr' rt (kP sc fi se (k + 1) 9) (k + 1) := by
  obtain ⟨i1, i2, i3, i4, i5, i6, i7, i8, i9, i10, i11⟩ := h
  have up : ∀ p q, p < 9 → cn nr' p q → cn nr p q := fun p q hp z => cn_more hx z
  have dn : ∀ p q, p < 9 → (cn nr p q ↔ cn nr' p q ∨ (cn nr' p A ∧ cn nr' B q) ∨ (cn nr' p B ∧ cn nr' A q)) := fun p q hp => cn_add g' i2 hA hB hx hp
  have kT : ∀ x y, x < 9 → y < 9 → (cn nr' A x ∧ cn nr' B y) ∨ (cn nr' A y ∧ cn nr' B x) → kP sc fi se (k + 1) 9 x y = k + 1 := fun x y hx9 hy9 e => by
    unfold kP
    rw [if_pos]
    rcases e with ⟨e1, e2⟩ | ⟨e1, e2⟩
    · exact Or.inl ⟨(hf x).mpr e1, (hs y).mpr e2, hx9⟩
    · exact Or.inr ⟨(hf y).mpr e1, (hs x).mpr e2, hy9⟩
  have kF : ∀ x y, ¬ ((cn nr' A x ∧ cn nr' B y) ∨ (cn nr' A y ∧ cn nr' B x)) → kP sc fi se (k + 1) 9 x y = sc x y := fun x y e => by
    unfold kP
    rw [if_neg]
    rintro (⟨e1, e2, -⟩ | ⟨e1, e2, -⟩)
    · exact e (Or.inl ⟨(hf x).mp e1, (hs y).mp e2⟩)
    · exact e (Or.inr ⟨(hf y).mp e1, (hs x).mp e2⟩)
  have sy : ∀ p q, p < 9 → cn nr' p q → cn nr' q p := fun p q hp z => cn_symm g' hp z
  have cond_cn : ∀ x y, (cn nr' A x ∧ cn nr' B y) ∨ (cn nr' A y ∧ cn nr' B x) → cn nr x y := fun x y e => by
    have eAB : cn nr A B := cn_edge hA ((hx A B hA).mpr (Or.inr (Or.inl ⟨rfl, rfl⟩)))
    rcases e with ⟨e1, e2⟩ | ⟨e1, e2⟩
    · exact cn_trans (cn_symm i2 hA (up A x hA e1)) (cn_trans eAB (up B y hB e2))
    · exact cn_trans (cn_symm i2 hB (up B x hB e2)) (cn_trans (cn_symm i2 hA eAB) (up A y hA e1))
  have cond_sy : ∀ x y, ((cn nr' A x ∧ cn nr' B y) ∨ (cn nr' A y ∧ cn nr' B x)) → ((cn nr' A y ∧ cn nr' B x) ∨ (cn nr' A x ∧ cn nr' B y)) := fun x y e => e.symm
  refine ⟨i1, g', fun p q hp hb => i3 p q hp ((hx p q hp).mpr (Or.inl hb)), ?_, ?_, ?_, ?_, ?_, ?_, fun p hp => Nat.le_succ_of_le (i10 p hp), i11⟩
  · intro p q hp hq
    by_cases e : (cn nr' A p ∧ cn nr' B q) ∨ (cn nr' A q ∧ cn nr' B p)
    · rw [kT p q hp hq e, kT q p hq hp e.symm]
    · rw [kF p q e, kF q p (fun z => e z.symm)]
      exact i4 p q hp hq
  · intro p q hp hq z
    by_cases e : (cn nr' A p ∧ cn nr' B q) ∨ (cn nr' A q ∧ cn nr' B p)
    · refine ⟨?_, fun y => ?_⟩
      · have c1 := cond_cn p q e
        rcases Nat.eq_zero_or_pos (rt p) with r | r
        · have hpp : pts.testBit p = true := by
            -- the edge's ends are there, and what hangs together with them
            have eA : pts.testBit A = true := i3 A B hA ((hx A B hA).mpr (Or.inr (Or.inl ⟨rfl, rfl⟩)))
            have eB : pts.testBit B = true := i3 B A hB ((hx B A hB).mpr (Or.inr (Or.inr ⟨rfl, rfl⟩)))
            have key : ∀ a, a < 9 → pts.testBit a = true → ∀ x, cn nr' a x → pts.testBit x = true := fun a ha hap x hc => hc pts hap (fun y hy _ t ht => by
              have ht9 := Gr_lt g' hy ht
              exact i3 t y ht9 ((hx t y ht9).mpr (Or.inl (g'.2.1 y t hy ht9 ht))))
            rcases e with ⟨e1, -⟩ | ⟨-, e2⟩
            · exact key A hA eA p e1
            · exact key B hB eB p e2
          exact hpp
        · have eA : pts.testBit A = true := i3 A B hA ((hx A B hA).mpr (Or.inr (Or.inl ⟨rfl, rfl⟩)))
          have eB : pts.testBit B = true := i3 B A hB ((hx B A hB).mpr (Or.inr (Or.inr ⟨rfl, rfl⟩)))
          have key : ∀ a, a < 9 → pts.testBit a = true → ∀ x, cn nr' a x → pts.testBit x = true := fun a ha hap x hc => hc pts hap (fun y hy _ t ht => by
            have ht9 := Gr_lt g' hy ht
            exact i3 t y ht9 ((hx t y ht9).mpr (Or.inl (g'.2.1 y t hy ht9 ht))))
          rcases e with ⟨e1, -⟩ | ⟨-, e2⟩
          · exact key A hA eA p e1
          · exact key B hB eB p e2
      · rcases e with ⟨e1, e2⟩ | ⟨e1, e2⟩
        · exact hn (cn_trans e1 (cn_trans y (sy B q hB e2)))
        · exact hn (cn_trans e1 (cn_trans (sy p q hp y) (sy B p hB e2)))
    · rw [kF p q e] at z
      exact ⟨(i5 p q hp hq z).1, fun y => (i5 p q hp hq z).2 (up p q hp y)⟩
  · intro p p' q hp hp' hq hc
    have hc2 := sy p p' hp hc
    by_cases e : (cn nr' A p ∧ cn nr' B q) ∨ (cn nr' A q ∧ cn nr' B p)
    · have e' : (cn nr' A p' ∧ cn nr' B q) ∨ (cn nr' A q ∧ cn nr' B p') := e.elim (fun z => Or.inl ⟨cn_trans z.1 hc, z.2⟩) (fun z => Or.inr ⟨z.1, cn_trans z.2 hc⟩)
      rw [kT p q hp hq e, kT p' q hp' hq e']
    · have e' : ¬ ((cn nr' A p' ∧ cn nr' B q) ∨ (cn nr' A q ∧ cn nr' B p')) := fun z => e (z.elim (fun z => Or.inl ⟨cn_trans z.1 hc2, z.2⟩) (fun z => Or.inr ⟨z.1, cn_trans z.2 hc2⟩))
      rw [kF p q e, kF p' q e']
      exact i6 p p' q hp hp' hq (up p p' hp hc)
  · intro p q r hp hq hr hc
    by_cases epr : (cn nr' A p ∧ cn nr' B r) ∨ (cn nr' A r ∧ cn nr' B p)
    · rw [kT p r hp hr epr]
      have b1 : kP sc fi se (k + 1) 9 p q ≤ k + 1 := by
        by_cases e : (cn nr' A p ∧ cn nr' B q) ∨ (cn nr' A q ∧ cn nr' B p)
        · rw [kT p q hp hq e]; exact Nat.le_refl _
        · rw [kF p q e]; exact Nat.le_succ_of_le (i9 p q hp hq)
      omega
    · rw [kF p r epr]
      by_cases epq : (cn nr' A p ∧ cn nr' B q) ∨ (cn nr' A q ∧ cn nr' B p)
      · by_cases eqr : (cn nr' A q ∧ cn nr' B r) ∨ (cn nr' A r ∧ cn nr' B q)
        · exfalso
          rcases epq with ⟨a1, a2⟩ | ⟨a1, a2⟩
          · rcases eqr with ⟨b1, b2⟩ | ⟨b1, b2⟩
            · exact hn (cn_trans b1 (sy B q hB a2))
            · exact hc (cn_trans (sy A p hA a1) b1)
          · rcases eqr with ⟨b1, b2⟩ | ⟨b1, b2⟩
            · exact hc (cn_trans (sy B p hB a2) b2)
            · exact hn (cn_trans a1 (sy B q hB b2))
        · rw [kF q r eqr, i6 p q r hp hq hr (cond_cn p q epq)]
          exact Nat.min_le_right _ _
      · rw [kF p q epq]
        by_cases eqr : (cn nr' A q ∧ cn nr' B r) ∨ (cn nr' A r ∧ cn nr' B q)
        · have e1 := i6 r q p hr hq hp (cn_symm i2 hq (cond_cn q r eqr))
          rw [i4 p q hp hq, i4 p r hp hr, e1]
          exact Nat.min_le_left _ _
        · rw [kF q r eqr]
          refine i7 p q r hp hq hr (fun z => ?_)
          rcases (dn p r hp).mp z with z | ⟨z1, z2⟩ | ⟨z1, z2⟩
          · exact hc z
          · exact epr (Or.inl ⟨sy p A hp z1, z2⟩)
          · exact epr (Or.inr ⟨z2, sy p B hp z1⟩)
  · intro p q hp hq z
    rcases z with z | z
    · exact i8 p q hp hq (Or.inl (up p q hp z))
    · by_cases e : (cn nr' A p ∧ cn nr' B q) ∨ (cn nr' A q ∧ cn nr' B p)
      · exact i8 p q hp hq (Or.inl (cond_cn p q e))
      · rw [kF p q e] at z
        exact i8 p q hp hq (Or.inr z)
  · intro p q hp hq
    by_cases e : (cn nr' A p ∧ cn nr' B q) ∨ (cn nr' A q ∧ cn nr' B p)
    · rw [kT p q hp hq e]; exact Nat.le_refl _
    · rw [kF p q e]; exact Nat.le_succ_of_le (i9 p q hp hq)
end
section
/-! Two pieces become one: kin stays an ultrametric -/
/-- kin of two other pieces x, y, of whom kin with P and with Q is known -/
def fJ (m ax bx ay bY s : Nat) : Nat := if m < ax ∧ m < bY then min ax bY else if m < ay ∧ m < bx then min ay bx else s
theorem fJ_1 {m ax bx ay bY s : Nat} (x1 : min ax bx ≤ m) (x2 : min ax m ≤ bx) (x3 : min m bx ≤ ax) (y1 : min ay bY ≤ m) (y2 : min ay m ≤ bY) (y3 : min m bY ≤ ay) (a1 : min ax ay ≤ s) (a2 : min ax s ≤ ay) (a3 : min ay s ≤ ax) (b1 : min bx bY ≤ s) (b2 : min bx s ≤ bY) (b3 : min bY s ≤ bx) :
    (min (max ax bx) (max ay bY) ≤ fJ m ax bx ay bY s ∧ min (max ax bx) (fJ m ax bx ay bY s) ≤ max ay bY ∧ min (max ay bY) (fJ m ax bx ay bY s) ≤ max ax bx) ∧ (fJ m ax bx ay bY s = s ∨ (fJ m ax bx ay bY s = min (max ax bx) (max ay bY) ∧ s = m ∧ m < max ax bx ∧ m < max ay bY)) := by
  unfold fJ
  split
  · omega
  · split
    · omega
    · omega
theorem fJ_2 {m vp vq vr fpq fqr fpr spq sqr spr : Nat} (i1 : min vp vq ≤ fpq) (i2 : min vp fpq ≤ vq) (i3 : min vq fpq ≤ vp) (j1 : min vq vr ≤ fqr) (j2 : min vq fqr ≤ vr) (j3 : min vr fqr ≤ vq) (k1 : min vp vr ≤ fpr)
    (e1 : fpq = spq ∨ (fpq = min vp vq ∧ spq = m ∧ m < vp ∧ m < vq)) (e2 : fqr = sqr ∨ (fqr = min vq vr ∧ sqr = m ∧ m < vq ∧ m < vr)) (e3 : fpr = spr ∨ (fpr = min vp vr ∧ spr = m ∧ m < vp ∧ m < vr)) (u : min spq sqr ≤ spr) : min fpq fqr ≤ fpr := by
  rcases e1 with e1 | e1 <;> rcases e2 with e2 | e2 <;> rcases e3 with e3 | e3 <;> omega
theorem fJ_sym {m ax bx ay bY s : Nat} (hx : ¬ (m < ax ∧ m < bx)) (hy : ¬ (m < ay ∧ m < bY)) : fJ m ax bx ay bY s = fJ m ay bY ax bx s := by
  unfold fJ
  by_cases h1 : m < ax ∧ m < bY
  · rw [if_pos h1, if_neg (by omega), if_pos h1]
  · rw [if_neg h1]
    by_cases h2 : m < ay ∧ m < bx
    · rw [if_pos h2, if_pos h2]
    · rw [if_neg h2, if_neg h2, if_neg h1]
/-- kin behind a joining, of points: J: the points of the joined piece -/
def scJ (sc : Nat → Nat → Nat) (A B J x y : Nat) : Nat :=
  if J.testBit x = true then (if J.testBit y = true then 0 else max (sc A y) (sc B y)) else if J.testBit y = true then max (sc A x) (sc B x) else fJ (sc A B) (sc A x) (sc B x) (sc A y) (sc B y) (sc x y)
section J
variable {pts A B k J : Nat} {nr nr' rt : Nat → Nat} {sc : Nat → Nat → Nat}
theorem TI_join (h : TI pts nr rt sc k) (g' : Gr nr') (hA : A < 9) (hB : B < 9) (hx : EdX nr nr' A B) (hn : ¬ cn nr A B) (pA : pts.testBit A = true) (pB : pts.testBit B = true) (hJ : ∀ x, J.testBit x = true ↔ cn nr' A x)
    {sc' : Nat → Nat → Nat} (hsc : ∀ x y, x < 9 → y < 9 → sc' x y = scJ sc A B J x y) {rt' : Nat → Nat}
    (hrt : ∀ x, x < 9 → rt' x = if sc A B = 0 then (if J.testBit x = true ∨ 0 < sc A x ∨ 0 < sc B x then min (rt A) (rt B) else rt x) else rt x) : TI pts nr' rt' sc' (k + 1) := by
  obtain ⟨i1, i2, i3, i4, i5, i6, i7, i8, i9, i10, i11⟩ := h
  have cA : ∀ p q, p < 9 → (cn nr' p q ↔ cn nr p q ∨ (cn nr p A ∧ cn nr B q) ∨ (cn nr p B ∧ cn nr A q)) := fun p q hp => cn_add i2 g' hA hB hx hp
  have sy : ∀ p q, p < 9 → cn nr p q → cn nr q p := fun p q hp z => cn_symm i2 hp z
  have hJ2 : ∀ x, J.testBit x = true ↔ cn nr A x ∨ cn nr B x := fun x => by
    rw [hJ, cA A x hA]
    constructor
    · rintro (r | ⟨-, r⟩ | ⟨r, -⟩)
      · exact Or.inl r
      · exact Or.inr r
      · exact absurd r hn
    · rintro (r | r)
      · exact Or.inl r
      · exact Or.inr (Or.inl ⟨cn_refl nr A, r⟩)
  have nJ : ∀ x, x < 9 → ¬ J.testBit x = true → ¬ cn nr A x ∧ ¬ cn nr B x ∧ ¬ cn nr x A ∧ ¬ cn nr x B := fun x hx9 z => ⟨fun r => z ((hJ2 x).mpr (Or.inl r)), fun r => z ((hJ2 x).mpr (Or.inr r)), fun r => z ((hJ2 x).mpr (Or.inl (sy x A hx9 r))), fun r => z ((hJ2 x).mpr (Or.inr (sy x B hx9 r)))⟩
  -- the ultrametric of a point outside with A and B
  have u3 : ∀ x, x < 9 → ¬ J.testBit x = true → min (sc A x) (sc B x) ≤ sc A B ∧ min (sc A x) (sc A B) ≤ sc B x ∧ min (sc A B) (sc B x) ≤ sc A x := fun x hx9 z => by
    obtain ⟨n1, n2, n3, n4⟩ := nJ x hx9 z
    have a1 := i7 A x B hA hx9 hB hn
    have a2 := i7 x A B hx9 hA hB n4
    have a3 := i7 A B x hA hB hx9 n1
    rw [i4 x B hx9 hB] at a1 a2
    rw [i4 x A hx9 hA] at a2
    exact ⟨a1, a2, a3⟩
  have ex : ∀ x, x < 9 → ¬ J.testBit x = true → ¬ (sc A B < sc A x ∧ sc A B < sc B x) := fun x hx9 z => by
    have := (u3 x hx9 z).1
    omega
  -- of two points outside that don't hang together
  have u6 : ∀ x y, x < 9 → y < 9 → ¬ J.testBit x = true → ¬ J.testBit y = true → ¬ cn nr x y → (min (sc A x) (sc A y) ≤ sc x y ∧ min (sc A x) (sc x y) ≤ sc A y ∧ min (sc A y) (sc x y) ≤ sc A x) ∧ (min (sc B x) (sc B y) ≤ sc x y ∧ min (sc B x) (sc x y) ≤ sc B y ∧ min (sc B y) (sc x y) ≤ sc B x) := fun x y hx9 hy9 zx zy z => by
    obtain ⟨n1, n2, n3, n4⟩ := nJ x hx9 zx
    obtain ⟨m1, m2, m3, m4⟩ := nJ y hy9 zy
    have a1 := i7 x A y hx9 hA hy9 z
    have a2 := i7 A x y hA hx9 hy9 m1
    have a3 := i7 A y x hA hy9 hx9 n1
    have b1 := i7 x B y hx9 hB hy9 z
    have b2 := i7 B x y hB hx9 hy9 m2
    have b3 := i7 B y x hB hy9 hx9 n2
    rw [i4 x A hx9 hA] at a1
    rw [i4 y x hy9 hx9] at a3 b3
    rw [i4 x B hx9 hB] at b1
    exact ⟨⟨a1, a2, a3⟩, ⟨b1, b2, b3⟩⟩
  have cJ' : ∀ x y, x < 9 → ¬ J.testBit x = true → (cn nr' x y ↔ cn nr x y) := fun x y hx9 z => by
    obtain ⟨n1, n2, n3, n4⟩ := nJ x hx9 z
    rw [cA x y hx9]
    constructor
    · rintro (r | ⟨r, -⟩ | ⟨r, -⟩)
      · exact r
      · exact absurd r n3
      · exact absurd r n4
    · exact Or.inl
  have JJ : ∀ x y, x < 9 → J.testBit x = true → (cn nr' x y ↔ J.testBit y = true) := fun x y hx9 z => by
    have z1 := (hJ x).mp z
    constructor
    · exact fun r => (hJ y).mpr (cn_trans z1 r)
    · exact fun r => cn_trans (cn_symm g' hA z1) ((hJ y).mp r)
  -- values
  have vJJ : ∀ x y, x < 9 → y < 9 → J.testBit x = true → J.testBit y = true → sc' x y = 0 := fun x y h1 h2 z1 z2 => by
    rw [hsc x y h1 h2]; unfold scJ; rw [if_pos z1, if_pos z2]
  have vJN : ∀ x y, x < 9 → y < 9 → J.testBit x = true → ¬ J.testBit y = true → sc' x y = max (sc A y) (sc B y) := fun x y h1 h2 z1 z2 => by
    rw [hsc x y h1 h2]; unfold scJ; rw [if_pos z1, if_neg z2]
  have vNJ : ∀ x y, x < 9 → y < 9 → ¬ J.testBit x = true → J.testBit y = true → sc' x y = max (sc A x) (sc B x) := fun x y h1 h2 z1 z2 => by
    rw [hsc x y h1 h2]; unfold scJ; rw [if_neg z1, if_pos z2]
  have vNN : ∀ x y, x < 9 → y < 9 → ¬ J.testBit x = true → ¬ J.testBit y = true → sc' x y = fJ (sc A B) (sc A x) (sc B x) (sc A y) (sc B y) (sc x y) := fun x y h1 h2 z1 z2 => by
    rw [hsc x y h1 h2]; unfold scJ; rw [if_neg z1, if_neg z2]
  -- of two that hang together, outside: 0
  have v0 : ∀ x y, x < 9 → y < 9 → ¬ J.testBit x = true → ¬ J.testBit y = true → cn nr x y → sc' x y = 0 := fun x y h1 h2 z1 z2 z => by
    rw [vNN x y h1 h2 z1 z2]
    have e1 : sc A x = sc A y := by rw [i4 A x hA h1, i4 A y hA h2]; exact i6 x y A h1 h2 hA z
    have e2 : sc B x = sc B y := by rw [i4 B x hB h1, i4 B y hB h2]; exact i6 x y B h1 h2 hB z
    have e3 : sc x y = 0 := by
      rcases Nat.eq_zero_or_pos (sc x y) with r | r
      · exact r
      · exact absurd z (i5 x y h1 h2 r).2
    have e4 := ex y h2 z2
    unfold fJ
    rw [e1, e2, if_neg (by omega), if_neg (by omega), e3]
  have pP : ∀ x, x < 9 → 0 < max (sc A x) (sc B x) → pts.testBit x = true := fun x h1 z => by
    rcases Nat.lt_or_ge 0 (sc A x) with r | r
    · rw [i4 A x hA h1] at r
      exact (i5 x A h1 hA r).1
    · have r2 : 0 < sc B x := by omega
      rw [i4 B x hB h1] at r2
      exact (i5 x B h1 hB r2).1
  have pJ : ∀ x, x < 9 → J.testBit x = true → pts.testBit x = true := fun x h1 z => by
    have key : ∀ a, pts.testBit a = true → ∀ x, cn nr a x → pts.testBit x = true := fun a hap x hc => hc pts hap (fun y hy _ t ht => by
      have ht9 := Gr_lt i2 hy ht
      exact i3 t y ht9 (i2.2.1 y t hy ht9 ht))
    rcases (hJ2 x).mp z with r | r
    · exact key A pA x r
    · exact key B pB x r
  refine ⟨i1, g', ?_, ?_, ?_, ?_, ?_, ?_, ?_, ?_, ?_⟩
  · intro p q hp hb
    rcases (hx p q hp).mp hb with r | ⟨r, -⟩ | ⟨r, -⟩
    · exact i3 p q hp r
    · rw [r]; exact pA
    · rw [r]; exact pB
  · intro p q hp hq
    by_cases z1 : J.testBit p = true
    · by_cases z2 : J.testBit q = true
      · rw [vJJ p q hp hq z1 z2, vJJ q p hq hp z2 z1]
      · rw [vJN p q hp hq z1 z2, vNJ q p hq hp z2 z1]
    · by_cases z2 : J.testBit q = true
      · rw [vNJ p q hp hq z1 z2, vJN q p hq hp z2 z1]
      · rw [vNN p q hp hq z1 z2, vNN q p hq hp z2 z1, i4 q p hq hp]
        exact fJ_sym (ex p hp z1) (ex q hq z2)
  · intro p q hp hq z
    by_cases z1 : J.testBit p = true
    · by_cases z2 : J.testBit q = true
      · rw [vJJ p q hp hq z1 z2] at z; omega
      · exact ⟨pJ p hp z1, fun r => z2 ((JJ p q hp z1).mp r)⟩
    · by_cases z2 : J.testBit q = true
      · rw [vNJ p q hp hq z1 z2] at z
        exact ⟨pP p hp z, fun r => z1 ((JJ q p hq z2).mp (cn_symm g' hp r))⟩
      · refine ⟨?_, fun r => ?_⟩
        · rw [vNN p q hp hq z1 z2] at z
          unfold fJ at z
          split at z
          · exact pP p hp (by omega)
          · split at z
            · exact pP p hp (by omega)
            · exact (i5 p q hp hq z).1
        · rw [v0 p q hp hq z1 z2 ((cJ' p q hp z1).mp r)] at z
          omega
  · intro p p' q hp hp' hq hc
    by_cases z1 : J.testBit p = true
    · have z1' := (JJ p p' hp z1).mp hc
      by_cases z2 : J.testBit q = true
      · rw [vJJ p q hp hq z1 z2, vJJ p' q hp' hq z1' z2]
      · rw [vJN p q hp hq z1 z2, vJN p' q hp' hq z1' z2]
    · have hc2 := (cJ' p p' hp z1).mp hc
      have z1' : ¬ J.testBit p' = true := fun r => z1 ((JJ p' p hp' r).mp (cn_symm g' hp hc))
      have e1 : sc A p = sc A p' := by rw [i4 A p hA hp, i4 A p' hA hp']; exact i6 p p' A hp hp' hA hc2
      have e2 : sc B p = sc B p' := by rw [i4 B p hB hp, i4 B p' hB hp']; exact i6 p p' B hp hp' hB hc2
      by_cases z2 : J.testBit q = true
      · rw [vNJ p q hp hq z1 z2, vNJ p' q hp' hq z1' z2, e1, e2]
      · rw [vNN p q hp hq z1 z2, vNN p' q hp' hq z1' z2, e1, e2, i6 p p' q hp hp' hq hc2]
  · intro p q r hp hq hr hc
    have pair : ∀ x y, x < 9 → y < 9 → ¬ J.testBit x = true → ¬ J.testBit y = true → ¬ cn nr x y → _ := fun x y h1 h2 z1 z2 z => fJ_1 (s := sc x y) (u3 x h1 z1).1 (u3 x h1 z1).2.1 (u3 x h1 z1).2.2 (u3 y h2 z2).1 (u3 y h2 z2).2.1 (u3 y h2 z2).2.2 (u6 x y h1 h2 z1 z2 z).1.1 (u6 x y h1 h2 z1 z2 z).1.2.1 (u6 x y h1 h2 z1 z2 z).1.2.2 (u6 x y h1 h2 z1 z2 z).2.1 (u6 x y h1 h2 z1 z2 z).2.2.1 (u6 x y h1 h2 z1 z2 z).2.2.2
    by_cases zp : J.testBit p = true
    · have zr : ¬ J.testBit r = true := fun z => hc ((JJ p r hp zp).mpr z)
      by_cases zq : J.testBit q = true
      · rw [vJJ p q hp hq zp zq]; omega
      · rw [vJN p q hp hq zp zq, vJN p r hp hr zp zr]
        by_cases e : cn nr q r
        · rw [v0 q r hq hr zq zr e]; omega
        · rw [vNN q r hq hr zq zr]
          exact (pair q r hq hr zq zr e).1.2.1
    · by_cases zr : J.testBit r = true
      · by_cases zq : J.testBit q = true
        · rw [vJJ q r hq hr zq zr]; omega
        · rw [vNJ q r hq hr zq zr, vNJ p r hp hr zp zr]
          by_cases e : cn nr p q
          · rw [v0 p q hp hq zp zq e]; omega
          · rw [vNN p q hp hq zp zq, Nat.min_comm]
            exact (pair p q hp hq zp zq e).1.2.2
      · have hc2 : ¬ cn nr p r := fun z => hc ((cJ' p r hp zp).mpr z)
        have ppr := pair p r hp hr zp zr hc2
        by_cases zq : J.testBit q = true
        · rw [vNJ p q hp hq zp zq, vJN q r hq hr zq zr, vNN p r hp hr zp zr]
          exact ppr.1.1
        · by_cases e1 : cn nr p q
          · rw [v0 p q hp hq zp zq e1]; omega
          · by_cases e2 : cn nr q r
            · rw [v0 q r hq hr zq zr e2]; omega
            · have ppq := pair p q hp hq zp zq e1
              have pqr := pair q r hq hr zq zr e2
              rw [vNN p q hp hq zp zq, vNN q r hq hr zq zr, vNN p r hp hr zp zr]
              exact fJ_2 ppq.1.1 ppq.1.2.1 ppq.1.2.2 pqr.1.1 pqr.1.2.1 pqr.1.2.2 ppr.1.1 ppq.2 pqr.2 ppr.2 (i7 p q r hp hq hr hc2)
  · intro p q hp hq z
    have rA : ∀ x, x < 9 → cn nr A x → rt A = rt x := fun x h1 y => i8 A x hA h1 (Or.inl y)
    have rB : ∀ x, x < 9 → cn nr B x → rt B = rt x := fun x h1 y => i8 B x hB h1 (Or.inl y)
    by_cases m0 : sc A B = 0
    · rw [hrt p hp, hrt q hq, if_pos m0, if_pos m0]
      have both : (J.testBit p = true ∨ 0 < sc A p ∨ 0 < sc B p) → (J.testBit q = true ∨ 0 < sc A q ∨ 0 < sc B q) → (if J.testBit p = true ∨ 0 < sc A p ∨ 0 < sc B p then min (rt A) (rt B) else rt p) = (if J.testBit q = true ∨ 0 < sc A q ∨ 0 < sc B q then min (rt A) (rt B) else rt q) := fun a1 a2 => by rw [if_pos a1, if_pos a2]
      by_cases zp : J.testBit p = true
      · by_cases zq : J.testBit q = true
        · exact both (Or.inl zp) (Or.inl zq)
        · rcases z with z | z
          · exact absurd ((JJ p q hp zp).mp z) zq
          · rw [vJN p q hp hq zp zq] at z
            exact both (Or.inl zp) (Or.inr (by omega))
      · by_cases zq : J.testBit q = true
        · rcases z with z | z
          · exact absurd ((JJ q p hq zq).mp (cn_symm g' hp z)) zp
          · rw [vNJ p q hp hq zp zq] at z
            exact both (Or.inr (by omega)) (Or.inl zq)
        · by_cases e : cn nr p q
          · have e1 : sc A p = sc A q := by rw [i4 A p hA hp, i4 A q hA hq]; exact i6 p q A hp hq hA e
            have e2 : sc B p = sc B q := by rw [i4 B p hB hp, i4 B q hB hq]; exact i6 p q B hp hq hB e
            have e3 := i8 p q hp hq (Or.inl e)
            by_cases l : 0 < sc A p ∨ 0 < sc B p
            · exact both (Or.inr l) (Or.inr (by omega))
            · rw [if_neg (fun y => y.elim zp l), if_neg (fun y => y.elim zq (fun y => l (by omega)))]
              exact e3
          · rcases z with z | z
            · exact absurd ((cJ' p q hp zp).mp z) e
            · rw [vNN p q hp hq zp zq] at z
              obtain ⟨⟨w1, w2, w3⟩, ⟨w4, w5, w6⟩⟩ := u6 p q hp hq zp zq e
              by_cases l : 0 < sc A p ∨ 0 < sc B p
              · by_cases l2 : 0 < sc A q ∨ 0 < sc B q
                · exact both (Or.inr l) (Or.inr l2)
                · exfalso
                  unfold fJ at z
                  split at z
                  · omega
                  · split at z
                    · omega
                    · omega
              · by_cases l2 : 0 < sc A q ∨ 0 < sc B q
                · exfalso
                  unfold fJ at z
                  split at z
                  · omega
                  · split at z
                    · omega
                    · omega
                · rw [if_neg (fun y => y.elim zp l), if_neg (fun y => y.elim zq l2)]
                  unfold fJ at z
                  rw [if_neg (by omega), if_neg (by omega)] at z
                  exact i8 p q hp hq (Or.inr z)
    · rw [hrt p hp, hrt q hq, if_neg m0, if_neg m0]
      have eAB : rt A = rt B := i8 A B hA hB (Or.inr (by omega))
      have rJ : ∀ x, x < 9 → J.testBit x = true → rt x = rt A := fun x h1 y => by
        rcases (hJ2 x).mp y with r | r
        · exact (rA x h1 r).symm
        · rw [eAB]; exact (rB x h1 r).symm
      have rV : ∀ x, x < 9 → 0 < max (sc A x) (sc B x) → rt x = rt A := fun x h1 y => by
        rcases Nat.lt_or_ge 0 (sc A x) with r | r
        · exact (i8 A x hA h1 (Or.inr r)).symm
        · rw [eAB]
          exact (i8 B x hB h1 (Or.inr (by omega))).symm
      by_cases zp : J.testBit p = true
      · by_cases zq : J.testBit q = true
        · rw [rJ p hp zp, rJ q hq zq]
        · rcases z with z | z
          · exact absurd ((JJ p q hp zp).mp z) zq
          · rw [vJN p q hp hq zp zq] at z
            rw [rJ p hp zp, rV q hq z]
      · by_cases zq : J.testBit q = true
        · rcases z with z | z
          · exact absurd ((JJ q p hq zq).mp (cn_symm g' hp z)) zp
          · rw [vNJ p q hp hq zp zq] at z
            rw [rJ q hq zq, rV p hp z]
        · rcases z with z | z
          · exact i8 p q hp hq (Or.inl ((cJ' p q hp zp).mp z))
          · rw [vNN p q hp hq zp zq] at z
            unfold fJ at z
            split at z
            next w => rw [rV p hp (by omega), rV q hq (by omega)]
            next =>
              split at z
              next w => rw [rV p hp (by omega), rV q hq (by omega)]
              next => exact i8 p q hp hq (Or.inr z)
  · intro p q hp hq
    have a1 := i9 A p hA hp
    have a2 := i9 A q hA hq
    have a3 := i9 B p hB hp
    have a4 := i9 B q hB hq
    have a5 := i9 p q hp hq
    rw [hsc p q hp hq]
    unfold scJ fJ
    split
    · split <;> omega
    · split
      · omega
      · split
        · omega
        · split <;> omega
  · intro p hp
    have a1 := i10 A hA
    have a2 := i10 B hB
    have a3 := i10 p hp
    rw [hrt p hp]
    split
    · split <;> omega
    · omega
  · intro p hp hb
    have a1 := i11 A hA pA
    have a2 := i11 B hB pB
    have a3 := i11 p hp hb
    rw [hrt p hp]
    split
    · split <;> omega
    · omega
end J
end
section
/-! Pieces with numbers -/
def Lab (pts : Nat) (nr po : Nat → Nat) (pcs : Nat) : Prop :=
  pcs < 512 ∧ (∀ p, p < 9 → po p < 9) ∧ (∀ p, p < 9 → pts.testBit p = true → pcs.testBit (po p) = true) ∧
  (∀ l, pcs.testBit l = true → ∃ p, p < 9 ∧ pts.testBit p = true ∧ po p = l) ∧
  ∀ p q, p < 9 → q < 9 → pts.testBit p = true → pts.testBit q = true → (po p = po q ↔ cn nr p q)
theorem popc_nd {x p : Nat} (hp : p < 9) (h : x.testBit p = true) : popc (nd x (1 <<< p)) 9 + 1 = popc x 9 := by
  have e : x = nd x (1 <<< p) ||| 1 <<< p := bits_eq fun t => by
    rw [Nat.testBit_or, nd_bit, sh_bit, Bool.or_eq_true, Bool.and_eq_true, decide_eq_true_eq]
    constructor
    · intro q
      by_cases z : t = p
      · exact Or.inr z
      · exact Or.inl ⟨q, by rw [decide_eq_false z]; rfl⟩
    · rintro (⟨q, -⟩ | q)
      · exact q
      · rw [q]; exact h
  have e2 : (nd x (1 <<< p)).testBit p = false := by
    rw [nd_bit, sh_bit, decide_eq_true rfl]
    simp
  have e3 := popc_or e2 9 hp
  rw [← e] at e3
  exact e3.symm
/-- the set of the first values of a function -/
def imM (f : Nat → Nat) : Nat → Nat
  | 0 => 0
  | n + 1 => imM f n ||| 1 <<< f n
theorem imM_bit {f : Nat → Nat} {t : Nat} : ∀ n, (imM f n).testBit t = true ↔ ∃ l, l < n ∧ f l = t
  | 0 => by
    unfold imM
    rw [Nat.zero_testBit]
    constructor
    · intro h; cases h
    · rintro ⟨l, h, -⟩; omega
  | n + 1 => by
    unfold imM
    rw [Nat.testBit_or, Bool.or_eq_true, imM_bit n, sh_bit, decide_eq_true_eq]
    constructor
    · rintro (⟨l, h1, h2⟩ | h)
      · exact ⟨l, by omega, h2⟩
      · exact ⟨n, by omega, h.symm⟩
    · rintro ⟨l, h1, h2⟩
      by_cases e : l = n
      · subst e; exact Or.inr h2.symm
      · exact Or.inl ⟨l, by omega, h2⟩
theorem imM_popc {f : Nat → Nat} (hf : ∀ l, l < 9 → f l < 9) (hi : ∀ l m, l < 9 → m < 9 → f l = f m → l = m) : ∀ n, n ≤ 9 → popc (imM f n) 9 = n
  | 0, _ => by
    unfold imM
    decide
  | n + 1, hn => by
    unfold imM
    have e : (imM f n).testBit (f n) = false := by
      cases q : (imM f n).testBit (f n)
      · rfl
      · obtain ⟨l, h1, h2⟩ := (imM_bit n).mp q
        have := hi l n (by omega) (by omega) h2
        omega
    rw [popc_or e 9 (hf n (by omega)), imM_popc hf hi n (by omega)]
theorem inj_surj {f : Nat → Nat} (hf : ∀ l, l < 9 → f l < 9) (hi : ∀ l m, l < 9 → m < 9 → f l = f m → l = m) {t : Nat} (ht : t < 9) : ∃ l, l < 9 ∧ f l = t := (imM_bit 9).mp (popc_full 9 (imM_popc hf hi 9 (Nat.le_refl 9)) t ht)
/-- not all nine numbers are taken, if a point isn't there or two have one number -/
theorem Lab_free {pts pcs : Nat} {nr po : Nat → Nat} (h : Lab pts nr po pcs) (hx : (∃ a, a < 9 ∧ pts.testBit a = false) ∨ ∃ a b, a < 9 ∧ b < 9 ∧ a ≠ b ∧ pts.testBit a = true ∧ pts.testBit b = true ∧ po a = po b) : ¬ ∀ l, l < 9 → pcs.testBit l = true := by
  intro hall
  obtain ⟨h1, h2, h3, h4, h5⟩ := h
  have hex : ∀ l, ∃ p, l < 9 → p < 9 ∧ pts.testBit p = true ∧ po p = l := fun l => by
    by_cases hl : l < 9
    · obtain ⟨p, q⟩ := h4 l (hall l hl)
      exact ⟨p, fun _ => q⟩
    · exact ⟨0, fun z => absurd z hl⟩
  let f : Nat → Nat := fun l => Classical.choose (hex l)
  have fs : ∀ l, l < 9 → f l < 9 ∧ pts.testBit (f l) = true ∧ po (f l) = l := fun l hl => Classical.choose_spec (hex l) hl
  have sur : ∀ t, t < 9 → ∃ l, l < 9 ∧ f l = t := fun t ht => inj_surj (fun l hl => (fs l hl).1) (fun l m hl hm e => by
    have e1 := (fs l hl).2.2
    have e2 := (fs m hm).2.2
    rw [e] at e1
    exact e1.symm.trans e2) ht
  rcases hx with ⟨a, ha, hn⟩ | ⟨a, b, ha, hb, hne, pa, pb, hab⟩
  · obtain ⟨l, hl, e⟩ := sur a ha
    rw [← e, (fs l hl).2.1] at hn
    cases hn
  · obtain ⟨l, hl, e⟩ := sur a ha
    obtain ⟨m, hm, e'⟩ := sur b hb
    have e1 := (fs l hl).2.2
    have e2 := (fs m hm).2.2
    rw [e] at e1
    rw [e'] at e2
    have : l = m := by rw [← e1, ← e2, hab]
    subst this
    exact hne (e.symm.trans e')
theorem Lab_freeL {pts pcs : Nat} {nr po : Nat → Nat} (h : Lab pts nr po pcs) (hx : (∃ a, a < 9 ∧ pts.testBit a = false) ∨ ∃ a b, a < 9 ∧ b < 9 ∧ a ≠ b ∧ pts.testBit a = true ∧ pts.testBit b = true ∧ po a = po b) : ∀ l, l ≤ 9 → pcs.testBit l = false → (∀ j, j < l → pcs.testBit j = true) → l < 9 := fun l hl _ hj => by
  rcases Nat.lt_or_eq_of_le hl with r | r
  · exact r
  · subst r
    exact absurd hj (Lab_free h hx)
theorem Lab_freeE {pts pcs : Nat} {nr po : Nat → Nat} (h : Lab pts nr po pcs) (hx : (∃ a, a < 9 ∧ pts.testBit a = false) ∨ ∃ a b, a < 9 ∧ b < 9 ∧ a ≠ b ∧ pts.testBit a = true ∧ pts.testBit b = true ∧ po a = po b) : ∃ l, l < 9 ∧ pcs.testBit l = false := by
  apply Classical.byContradiction
  intro hn
  exact Lab_free h hx (fun l hl => by
    cases q : pcs.testBit l
    · exact absurd ⟨l, hl, q⟩ hn
    · rfl)
theorem Lab_0 {nr po : Nat → Nat} (hp : ∀ p, p < 9 → po p < 9) : Lab 0 nr po 0 := by
  have z : ∀ t, ¬ (0 : Nat).testBit t = true := fun t => by rw [Nat.zero_testBit]; decide
  exact ⟨by decide, hp, fun p _ h => absurd h (z p), fun l h => absurd h (z l), fun p q _ _ h => absurd h (z p)⟩
theorem Lab_same {pts pcs : Nat} {nr nr' po : Nat → Nat} (h : Lab pts nr po pcs) (hc : ∀ p q, p < 9 → (cn nr' p q ↔ cn nr p q)) : Lab pts nr' po pcs := ⟨h.1, h.2.1, h.2.2.1, h.2.2.2.1, fun p q hp hq a b => (h.2.2.2.2 p q hp hq a b).trans (hc p q hp).symm⟩
theorem Lab_come {pts pcs A l : Nat} {nr po : Nat → Nat} (h : Lab pts nr po pcs) (g : Gr nr) (hA : A < 9) (ha : pts.testBit A = false) (iso : ∀ t, (nr A).testBit t = false) (hl : l < 9) (hlb : pcs.testBit l = false) : Lab (pts ^^^ 1 <<< A) nr (uN' po A l) (pcs ||| 1 <<< l) := by
  obtain ⟨h1, h2, h3, h4, h5⟩ := h
  have bp : ∀ t, (pts ^^^ 1 <<< A).testBit t = true ↔ pts.testBit t = true ∨ t = A := fun t => by
    rw [xor_bit]
    by_cases e : t = A
    · subst e; simp [ha]
    · simp [e]
  have bl : ∀ t, (pcs ||| 1 <<< l).testBit t = true ↔ pcs.testBit t = true ∨ t = l := fun t => by
    rw [Nat.testBit_or, sh_bit, Bool.or_eq_true, decide_eq_true_eq]
  have nA : ∀ p, pts.testBit p = true → p ≠ A := fun p q e => by rw [e, ha] at q; cases q
  refine ⟨or_lt (n := 9) h1 (sh_lt hl), fun p hp => ?_, fun p hp hb => ?_, fun m hm => ?_, fun p q hp hq hb1 hb2 => ?_⟩
  · by_cases e : p = A
    · rw [e, uN_s]; exact hl
    · rw [uN_n e]; exact h2 p hp
  · rw [bl]
    rcases (bp p).mp hb with r | r
    · rw [uN_n (nA p r)]
      exact Or.inl (h3 p hp r)
    · rw [r, uN_s]
      exact Or.inr rfl
  · rcases (bl m).mp hm with r | r
    · obtain ⟨p, q1, q2, q3⟩ := h4 m r
      exact ⟨p, q1, (bp p).mpr (Or.inl q2), by rw [uN_n (nA p q2)]; exact q3⟩
    · exact ⟨A, hA, (bp A).mpr (Or.inr rfl), by rw [uN_s]; exact r.symm⟩
  · rcases (bp p).mp hb1 with r1 | r1
    · rw [uN_n (nA p r1)]
      rcases (bp q).mp hb2 with r2 | r2
      · rw [uN_n (nA q r2)]
        exact h5 p q hp hq r1 r2
      · subst r2
        rw [uN_s]
        constructor
        · intro e
          have e2 := h3 p hp r1
          rw [e, hlb] at e2
          cases e2
        · intro e
          exact absurd (cn_iso iso (cn_symm g hp e)) (nA p r1)
    · subst r1
      rw [uN_s]
      rcases (bp q).mp hb2 with r2 | r2
      · rw [uN_n (nA q r2)]
        constructor
        · intro e
          have e2 := h3 q hq r2
          rw [← e, hlb] at e2
          cases e2
        · intro e
          exact absurd (cn_iso iso e) (nA q r2)
      · subst r2
        rw [uN_s]
        exact ⟨fun _ => cn_refl nr q, fun _ => rfl⟩
theorem Lab_go {pts pcs A : Nat} {nr po : Nat → Nat} (h : Lab pts nr po pcs) (g : Gr nr) (hA : A < 9) (ha : pts.testBit A = true) (iso : ∀ t, (nr A).testBit t = false) : Lab (pts ^^^ 1 <<< A) nr po (nd pcs (1 <<< po A)) := by
  obtain ⟨h1, h2, h3, h4, h5⟩ := h
  have bp : ∀ t, (pts ^^^ 1 <<< A).testBit t = true ↔ pts.testBit t = true ∧ t ≠ A := fun t => by
    rw [xor_bit]
    by_cases e : t = A
    · subst e; simp [ha]
    · simp [e]
  have bl : ∀ t, (nd pcs (1 <<< po A)).testBit t = true ↔ pcs.testBit t = true ∧ t ≠ po A := fun t => by
    rw [nd_bit, sh_bit, Bool.and_eq_true]
    by_cases e : t = po A
    · simp [e]
    · simp [e]
  refine ⟨nd_lt (n := 9) h1, h2, fun p hp hb => ?_, fun m hm => ?_, fun p q hp hq hb1 hb2 => h5 p q hp hq ((bp p).mp hb1).1 ((bp q).mp hb2).1⟩
  · obtain ⟨r1, r2⟩ := (bp p).mp hb
    refine (bl _).mpr ⟨h3 p hp r1, fun e => ?_⟩
    exact r2 (cn_iso iso (cn_symm g hp ((h5 p A hp hA r1 ha).mp e)))
  · obtain ⟨r1, r2⟩ := (bl m).mp hm
    obtain ⟨p, q1, q2, q3⟩ := h4 m r1
    exact ⟨p, q1, (bp p).mpr ⟨q2, fun e => r2 (by rw [← q3, e])⟩, q3⟩
theorem Lab_join {pts pcs A B : Nat} {nr nr' po : Nat → Nat} (h : Lab pts nr po pcs) (g : Gr nr) (g' : Gr nr') (hA : A < 9) (hB : B < 9) (hx : EdX nr nr' A B) (pA : pts.testBit A = true) (pB : pts.testBit B = true) (hne : po A ≠ po B) : Lab pts nr' (pw 9 (fun p => pts.testBit p && Nat.beq (po p) (po B)) (fun _ => po A) po) (nd pcs (1 <<< po B)) := by
  obtain ⟨h1, h2, h3, h4, h5⟩ := h
  have bl : ∀ t, (nd pcs (1 <<< po B)).testBit t = true ↔ pcs.testBit t = true ∧ t ≠ po B := fun t => by
    rw [nd_bit, sh_bit, Bool.and_eq_true]
    by_cases e : t = po B
    · simp [e]
    · simp [e]
  have vT : ∀ p, p < 9 → pts.testBit p = true → po p = po B → pw 9 (fun p => pts.testBit p && Nat.beq (po p) (po B)) (fun _ => po A) po p = po A := fun p hp a e => pw_in hp (by show (pts.testBit p && Nat.beq (po p) (po B)) = true; rw [a, e]; simp)
  have vF : ∀ p, po p ≠ po B → pw 9 (fun p => pts.testBit p && Nat.beq (po p) (po B)) (fun _ => po A) po p = po p := fun p e => by
    unfold pw
    rw [if_neg]
    rintro ⟨-, q⟩
    rw [Bool.and_eq_true] at q
    exact e (Nat.eq_of_beq_eq_true q.2)
  refine ⟨nd_lt (n := 9) h1, fun p hp => ?_, fun p hp hb => ?_, fun m hm => ?_, fun p q hp hq hb1 hb2 => ?_⟩
  · unfold pw
    split
    · exact h2 A hA
    · exact h2 p hp
  · rw [bl]
    by_cases e : po p = po B
    · rw [vT p hp hb e]
      exact ⟨h3 A hA pA, hne⟩
    · rw [vF p e]
      exact ⟨h3 p hp hb, e⟩
  · obtain ⟨r1, r2⟩ := (bl m).mp hm
    obtain ⟨p, q1, q2, q3⟩ := h4 m r1
    exact ⟨p, q1, q2, by rw [vF p (by rw [q3]; exact r2)]; exact q3⟩
  · rw [cn_add g g' hA hB hx hp]
    have eA : ∀ x, x < 9 → pts.testBit x = true → (po x = po A ↔ cn nr x A) := fun x hx9 a => h5 x A hx9 hA a pA
    have eB : ∀ x, x < 9 → pts.testBit x = true → (po x = po B ↔ cn nr x B) := fun x hx9 a => h5 x B hx9 hB a pB
    have eA' : ∀ x, x < 9 → pts.testBit x = true → (po A = po x ↔ cn nr A x) := fun x hx9 a => h5 A x hA hx9 pA a
    have eB' : ∀ x, x < 9 → pts.testBit x = true → (po B = po x ↔ cn nr B x) := fun x hx9 a => h5 B x hB hx9 pB a
    rw [← h5 p q hp hq hb1 hb2, ← eA p hp hb1, ← eB' q hq hb2, ← eB p hp hb1, ← eA' q hq hb2]
    by_cases e1 : po p = po B
    · rw [vT p hp hb1 e1]
      by_cases e2 : po q = po B
      · rw [vT q hq hb2 e2]
        exact ⟨fun _ => Or.inl (e1.trans e2.symm), fun _ => rfl⟩
      · rw [vF q e2]
        constructor
        · exact fun z => Or.inr (Or.inr ⟨e1, z⟩)
        · rintro (z | ⟨z1, z2⟩ | ⟨-, z⟩)
          · exact absurd (z.symm.trans e1) e2
          · exact absurd z2.symm e2
          · exact z
    · rw [vF p e1]
      by_cases e2 : po q = po B
      · rw [vT q hq hb2 e2]
        constructor
        · exact fun z => Or.inr (Or.inl ⟨z, e2.symm⟩)
        · rintro (z | ⟨z, -⟩ | ⟨z, -⟩)
          · exact absurd (z.trans e2) e1
          · exact z
          · exact absurd z e1
      · rw [vF q e2]
        constructor
        · exact Or.inl
        · rintro (z | ⟨-, z⟩ | ⟨z, -⟩)
          · exact z
          · exact absurd z.symm e2
          · exact absurd z e1
/-- nr' is the graph without the edge -/
theorem Lab_part {pts pcs A B R l : Nat} {nr nr' po : Nat → Nat} (h : Lab pts nr po pcs) (g : Gr nr) (g' : Gr nr') (hA : A < 9) (hB : B < 9) (hx : EdX nr' nr A B) (pA : pts.testBit A = true) (pB : pts.testBit B = true) (hn : ¬ cn nr' A B) (hR : ∀ x, R.testBit x = true ↔ cn nr' B x) (hl : l < 9) (hlb : pcs.testBit l = false) : Lab pts nr' (pw 9 (fun q => R.testBit q) (fun _ => l) po) (pcs ||| 1 <<< l) := by
  obtain ⟨h1, h2, h3, h4, h5⟩ := h
  have bl : ∀ t, (pcs ||| 1 <<< l).testBit t = true ↔ pcs.testBit t = true ∨ t = l := fun t => by
    rw [Nat.testBit_or, sh_bit, Bool.or_eq_true, decide_eq_true_eq]
  have vT : ∀ p, p < 9 → cn nr' B p → pw 9 (fun q => R.testBit q) (fun _ => l) po p = l := fun p hp e => pw_in hp ((hR p).mpr e)
  have vF : ∀ p, ¬ cn nr' B p → pw 9 (fun q => R.testBit q) (fun _ => l) po p = po p := fun p e => by
    unfold pw
    rw [if_neg (fun z => e ((hR p).mp z.2))]
  have sy : ∀ p q, p < 9 → cn nr' p q → cn nr' q p := fun p q hp z => cn_symm g' hp z
  have dn : ∀ p q, p < 9 → (cn nr p q ↔ cn nr' p q ∨ (cn nr' p A ∧ cn nr' B q) ∨ (cn nr' p B ∧ cn nr' A q)) := fun p q hp => cn_add g' g hA hB hx hp
  refine ⟨or_lt (n := 9) h1 (sh_lt hl), fun p hp => ?_, fun p hp hb => ?_, fun m hm => ?_, fun p q hp hq hb1 hb2 => ?_⟩
  · unfold pw
    split
    · exact hl
    · exact h2 p hp
  · rw [bl]
    by_cases e : cn nr' B p
    · rw [vT p hp e]; exact Or.inr rfl
    · rw [vF p e]; exact Or.inl (h3 p hp hb)
  · rcases (bl m).mp hm with r | r
    · obtain ⟨p, q1, q2, q3⟩ := h4 m r
      by_cases e : cn nr' B p
      · -- the number stays with A
        refine ⟨A, hA, pA, ?_⟩
        rw [vF A (fun z => hn (sy B A hB z))]
        rw [← q3]
        refine (h5 A p hA q1 pA q2).mpr ((dn A p hA).mpr (Or.inr (Or.inl ⟨cn_refl nr' A, e⟩)))
      · exact ⟨p, q1, q2, by rw [vF p e]; exact q3⟩
    · exact ⟨B, hB, pB, by rw [vT B hB (cn_refl nr' B)]; exact r.symm⟩
  · have old := h5 p q hp hq hb1 hb2
    by_cases e1 : cn nr' B p
    · rw [vT p hp e1]
      by_cases e2 : cn nr' B q
      · rw [vT q hq e2]
        exact ⟨fun _ => cn_trans (sy B p hB e1) e2, fun _ => rfl⟩
      · rw [vF q e2]
        constructor
        · intro e
          have e3 := h3 q hq hb2
          rw [← e, hlb] at e3
          cases e3
        · exact fun z => absurd (cn_trans e1 z) e2
    · rw [vF p e1]
      by_cases e2 : cn nr' B q
      · rw [vT q hq e2]
        constructor
        · intro e
          have e3 := h3 p hp hb1
          rw [e, hlb] at e3
          cases e3
        · exact fun z => absurd (cn_trans e2 (sy p q hp z)) e1
      · rw [vF q e2, old, dn p q hp]
        constructor
        · rintro (z | ⟨-, z⟩ | ⟨z, -⟩)
          · exact z
          · exact absurd z e2
          · exact absurd (sy p B hp z) e1
        · exact Or.inl
end
section
/-! A story's state and its step: points, edges (how many), edges (whose), roots, kin, ended bars in their order -/
abbrev TT : Type := Nat × Nat × (Nat → Nat) × (Nat → Nat) × (Nat → Nat → Nat) × List (Nat × Nat)
def bG (m r : Nat) : Nat := if 0 < m then m else r
noncomputable def tS (ac k : Nat) (τ : TT) : TT :=
  if ac >>> 8 = 0 then (τ.1 ^^^ 1 <<< (ac >>> 4 &&& 15), τ.2.1, τ.2.2.1, uN' τ.2.2.2.1 (ac >>> 4 &&& 15) k, τ.2.2.2.2.1, τ.2.2.2.2.2)
  else if ac >>> 8 = 1 then (τ.1 ^^^ 1 <<< (ac >>> 4 &&& 15), τ.2.1, τ.2.2.1, uN' τ.2.2.2.1 (ac >>> 4 &&& 15) 0, kz τ.2.2.2.2.1 (ac >>> 4 &&& 15) 9, τ.2.2.2.2.2 ++ [(bG (mxS (τ.1 ^^^ 1 <<< (ac >>> 4 &&& 15)) (τ.2.2.2.2.1 (ac >>> 4 &&& 15)) 9) (τ.2.2.2.1 (ac >>> 4 &&& 15)), k)])
  else if ac >>> 8 = 2 then
    (if (pOf τ.2.2.1 (ac >>> 4 &&& 15)).testBit (ac &&& 15) = true then (τ.1, τ.2.1 + 1, nrX τ.2.2.1 (ac >>> 4 &&& 15) (ac &&& 15), τ.2.2.2.1, τ.2.2.2.2.1, τ.2.2.2.2.2)
     else (τ.1, τ.2.1 + 1, nrX τ.2.2.1 (ac >>> 4 &&& 15) (ac &&& 15),
      (if τ.2.2.2.2.1 (ac >>> 4 &&& 15) (ac &&& 15) = 0 then pw 9 (lR (pOf (nrX τ.2.2.1 (ac >>> 4 &&& 15) (ac &&& 15)) (ac >>> 4 &&& 15)) (wv (pOf (nrX τ.2.2.1 (ac >>> 4 &&& 15) (ac &&& 15)) (ac >>> 4 &&& 15)) (τ.2.2.2.2.1 (ac >>> 4 &&& 15))) (wv (pOf (nrX τ.2.2.1 (ac >>> 4 &&& 15) (ac &&& 15)) (ac >>> 4 &&& 15)) (τ.2.2.2.2.1 (ac &&& 15)))) (fun _ => min (τ.2.2.2.1 (ac >>> 4 &&& 15)) (τ.2.2.2.1 (ac &&& 15))) τ.2.2.2.1 else τ.2.2.2.1),
      sj (τ.2.2.2.2.1 (ac >>> 4 &&& 15) (ac &&& 15)) (pOf (nrX τ.2.2.1 (ac >>> 4 &&& 15) (ac &&& 15)) (ac >>> 4 &&& 15)) (wv (pOf (nrX τ.2.2.1 (ac >>> 4 &&& 15) (ac &&& 15)) (ac >>> 4 &&& 15)) (τ.2.2.2.2.1 (ac >>> 4 &&& 15))) (wv (pOf (nrX τ.2.2.1 (ac >>> 4 &&& 15) (ac &&& 15)) (ac >>> 4 &&& 15)) (τ.2.2.2.2.1 (ac &&& 15))) τ.2.2.2.2.1 9,
      τ.2.2.2.2.2 ++ [(bG (τ.2.2.2.2.1 (ac >>> 4 &&& 15) (ac &&& 15)) (max (τ.2.2.2.1 (ac >>> 4 &&& 15)) (τ.2.2.2.1 (ac &&& 15))), k)]))
  else
    (if (pOf (nrX τ.2.2.1 (ac >>> 4 &&& 15) (ac &&& 15)) (ac >>> 4 &&& 15)).testBit (ac &&& 15) = true then (τ.1, τ.2.1 - 1, nrX τ.2.2.1 (ac >>> 4 &&& 15) (ac &&& 15), τ.2.2.2.1, τ.2.2.2.2.1, τ.2.2.2.2.2)
     else (τ.1, τ.2.1 - 1, nrX τ.2.2.1 (ac >>> 4 &&& 15) (ac &&& 15), τ.2.2.2.1, kP τ.2.2.2.2.1 (pOf (nrX τ.2.2.1 (ac >>> 4 &&& 15) (ac &&& 15)) (ac >>> 4 &&& 15)) (pOf (nrX τ.2.2.1 (ac >>> 4 &&& 15) (ac &&& 15)) (ac &&& 15)) k 9, τ.2.2.2.2.2))
/-- the edges counted -/
def esum (nr : Nat → Nat) : Nat → Nat
  | 0 => 0
  | i + 1 => esum nr i + popc (nr i) 9
theorem esum_u {nr : Nat → Nat} {A v : Nat} : ∀ m, (m ≤ A → esum (uN' nr A v) m = esum nr m) ∧ (A < m → esum (uN' nr A v) m + popc (nr A) 9 = esum nr m + popc v 9)
  | 0 => ⟨fun _ => rfl, fun h => absurd h (Nat.not_lt_zero A)⟩
  | m + 1 => by
    have ih := esum_u (nr := nr) (A := A) (v := v) m
    constructor
    · intro h
      unfold esum
      rw [ih.1 (by omega), uN_n (by omega)]
    · intro h
      unfold esum
      by_cases e : m = A
      · subst e
        rw [ih.1 (Nat.le_refl m), uN_s]
        omega
      · rw [uN_n e]
        have := ih.2 (by omega)
        omega
theorem popc_congr {x y : Nat} (h : ∀ i, i < 9 → x.testBit i = y.testBit i) : ∀ n, n ≤ 9 → popc x n = popc y n
  | 0, _ => rfl
  | n + 1, hn => by
    unfold popc
    rw [popc_congr h n (by omega), h n (by omega)]
theorem popc_on {x p : Nat} (hp : p < 9) (h : x.testBit p = false) : popc (x ^^^ 1 <<< p) 9 = popc x 9 + 1 := by
  rw [← popc_or h 9 hp]
  refine popc_congr (fun i _ => ?_) 9 (Nat.le_refl 9)
  rw [xor_bit, Nat.testBit_or, sh_bit]
  by_cases e : i = p
  · subst e; simp [h]
  · simp [e]
theorem popc_off {x p : Nat} (hp : p < 9) (h : x.testBit p = true) : popc (x ^^^ 1 <<< p) 9 + 1 = popc x 9 := by
  rw [← popc_nd hp h]
  congr 1
  refine popc_congr (fun i _ => ?_) 9 (Nat.le_refl 9)
  rw [xor_bit, nd_bit, sh_bit]
  by_cases e : i = p
  · subst e; simp [h]
  · simp [e]
theorem esum_on {nr : Nat → Nat} {A B : Nat} (g : Gr nr) (hA : A < 9) (hB : B < 9) (hne : A ≠ B) (h : (nr A).testBit B = false) : esum (nrX nr A B) 9 = esum nr 9 + 2 := by
  have h2 : (nr B).testBit A = false := by
    cases e : (nr B).testBit A
    · rfl
    · rw [g.2.1 B A hB hA e] at h; cases h
  have e1 := (esum_u (nr := nr) (A := A) (v := nr A ^^^ 1 <<< B) 9).2 hA
  have e2 := (esum_u (nr := uN' nr A (nr A ^^^ 1 <<< B)) (A := B) (v := uN' nr A (nr A ^^^ 1 <<< B) B ^^^ 1 <<< A) 9).2 hB
  rw [uN_n (Ne.symm hne)] at e2
  rw [popc_on hB h] at e1
  rw [popc_on hA h2] at e2
  unfold nrX
  rw [uN_n (Ne.symm hne)]
  omega
theorem esum_off {nr : Nat → Nat} {A B : Nat} (g : Gr nr) (hA : A < 9) (hB : B < 9) (hne : A ≠ B) (h : (nr A).testBit B = true) : esum (nrX nr A B) 9 + 2 = esum nr 9 := by
  have h2 : (nr B).testBit A = true := g.2.1 A B hA hB h
  have e1 := (esum_u (nr := nr) (A := A) (v := nr A ^^^ 1 <<< B) 9).2 hA
  have e2 := (esum_u (nr := uN' nr A (nr A ^^^ 1 <<< B)) (A := B) (v := uN' nr A (nr A ^^^ 1 <<< B) B ^^^ 1 <<< A) 9).2 hB
  rw [uN_n (Ne.symm hne)] at e2
  have p1 := popc_off hB h
  have p2 := popc_off hA h2
  unfold nrX
  rw [uN_n (Ne.symm hne)]
  omega
/-- what holds of a story behind k acts -/
def TV (τ : TT) (k : Nat) : Prop :=
  TI τ.1 τ.2.2.1 τ.2.2.2.1 τ.2.2.2.2.1 k ∧ 2 * τ.2.1 = esum τ.2.2.1 9 ∧ (∃ po pcs, Lab τ.1 τ.2.2.1 po pcs ∧ τ.2.2.2.2.2.length + popc pcs 9 ≤ k) ∧ ∀ x ∈ τ.2.2.2.2.2, 1 ≤ x.1 ∧ x.1 ≤ k ∧ 1 ≤ x.2 ∧ x.2 ≤ k
/-- an act's number is right -/
def AV (ac : Nat) : Prop := ac < 1024 ∧ ac >>> 4 &&& 15 < 9 ∧ ac &&& 15 < 9 ∧ (ac >>> 8 < 2 → ac &&& 15 = ac >>> 4 &&& 15)
theorem AV_k {ac : Nat} (h : AV ac) : ac >>> 8 < 4 := by
  have := h.1
  rw [Nat.shiftRight_eq_div_pow]
  omega
theorem mxS_pos {oth : Nat} {r : Nat → Nat} : ∀ i, 0 < mxS oth r i → ∃ q, q < i ∧ oth.testBit q = true ∧ r q = mxS oth r i
  | 0, h => absurd h (Nat.lt_irrefl 0)
  | i + 1, h => by
    unfold mxS at h ⊢
    by_cases e : oth.testBit i = true
    · rw [if_pos e] at h ⊢
      rcases Nat.le_total (mxS oth r i) (r i) with z | z
      · exact ⟨i, by omega, e, by rw [Nat.max_eq_right z]⟩
      · rw [Nat.max_eq_left z] at h ⊢
        obtain ⟨q, a, b, c⟩ := mxS_pos i h
        exact ⟨q, by omega, b, c⟩
    · rw [if_neg e] at h ⊢
      obtain ⟨q, a, b, c⟩ := mxS_pos i h
      exact ⟨q, by omega, b, c⟩
theorem mxS_b {oth m : Nat} {r : Nat → Nat} (h : ∀ q, q < 9 → r q ≤ m) : mxS oth r 9 ≤ m := mxS_le h 9 (Nat.le_refl 9)
theorem pw_congr {c c' : Nat → Bool} {v g : Nat → Nat} (h : ∀ q, q < 9 → c q = c' q) : pw 9 c v g = pw 9 c' v g := by
  funext q
  unfold pw
  by_cases e : q < 9
  · rw [h q e]
  · rw [if_neg (fun z => e z.1), if_neg (fun z => e z.1)]
theorem sj_congr {met J : Nat} {wf ws wf' ws' : Nat → Nat} {sc : Nat → Nat → Nat} (h : ∀ q, q < 9 → wf q = wf' q ∧ ws q = ws' q) : sj met J wf ws sc 9 = sj met J wf' ws' sc 9 := by
  funext x y
  unfold sj
  by_cases ex : x < 9
  · rw [(h x ex).1, (h x ex).2]
    by_cases ey : y < 9
    · rw [(h y ey).1, (h y ey).2]
    · have n1 : ∀ (P Q : Prop), ¬ (P ∧ Q ∧ x < 9 ∧ y < 9) := fun P Q z => ey z.2.2.2
      have n2 : ∀ (P Q : Prop), ¬ (P ∧ Q ∧ y < 9 ∧ x < 9) := fun P Q z => ey z.2.2.1
      have n3 : ∀ (P : Prop), ¬ (P ∧ y < 9) := fun P z => ey z.2
      rw [if_neg (n3 (J.testBit x = true)), if_neg (n3 (J.testBit x = true))]
      rw [if_neg (n1 _ _), if_neg (n1 _ _), if_neg (n2 _ _), if_neg (n2 _ _)]
  · have n3 : ∀ (P : Prop), ¬ (P ∧ x < 9) := fun P z => ex z.2
    have n1 : ∀ (P Q : Prop), ¬ (P ∧ Q ∧ x < 9 ∧ y < 9) := fun P Q z => ex z.2.2.1
    have n2 : ∀ (P Q : Prop), ¬ (P ∧ Q ∧ y < 9 ∧ x < 9) := fun P Q z => ex z.2.2.2
    rw [if_neg (n3 (J.testBit y = true)), if_neg (n3 (J.testBit y = true))]
    by_cases ey : y < 9
    · rw [(h y ey).1, (h y ey).2]
      rw [if_neg (n1 _ _), if_neg (n1 _ _), if_neg (n2 _ _), if_neg (n2 _ _)]
    · rw [if_neg (fun z : _ ∧ y < 9 => ey z.2), if_neg (fun z : _ ∧ y < 9 => ey z.2), if_neg (n1 _ _), if_neg (n1 _ _), if_neg (n2 _ _), if_neg (n2 _ _)]
/-- sj is scJ on the nine -/
theorem sj_scJ {sc : Nat → Nat → Nat} {A B J x y : Nat} (hx : x < 9) (hy : y < 9) : sj (sc A B) J (wv J (sc A)) (wv J (sc B)) sc 9 x y = scJ sc A B J x y := by
  unfold sj scJ fJ wv
  by_cases zx : J.testBit x = true
  · by_cases zy : J.testBit y = true
    · rw [if_pos (c := J.testBit y = true ∧ x < 9) ⟨zy, hx⟩]
      simp [zx, zy]
    · rw [if_neg (c := J.testBit y = true ∧ x < 9) (fun z => zy z.1), if_pos (c := J.testBit x = true ∧ y < 9) ⟨zx, hy⟩]
      simp [zx, zy]
  · by_cases zy : J.testBit y = true
    · rw [if_pos (c := J.testBit y = true ∧ x < 9) ⟨zy, hx⟩]
      simp [zx, zy]
    · rw [if_neg (c := J.testBit y = true ∧ x < 9) (fun z => zy z.1), if_neg (c := J.testBit x = true ∧ y < 9) (fun z => zx z.1)]
      simp only [zx, zy, if_false, hx, hy, and_true, Bool.false_eq_true]
end
section
theorem may0 {th A B : Nat} {be : Nat → Nat} (h : mayB th be 0 A B = true) : th.testBit A = false := by
  unfold mayB at h
  rw [if_pos rfl] at h
  cases q : th.testBit A
  · rfl
  · rw [q] at h; cases h
theorem may1 {th A B : Nat} {be : Nat → Nat} (h : mayB th be 1 A B = true) : th.testBit A = true ∧ be A = 0 := by
  unfold mayB at h
  rw [if_neg (by decide), if_pos rfl, Bool.and_eq_true, decide_eq_true_eq] at h
  exact h
theorem may2 {th A B : Nat} {be : Nat → Nat} (h : mayB th be 2 A B = true) : A ≠ B ∧ th.testBit A = true ∧ th.testBit B = true ∧ (be A).testBit B = false := by
  unfold mayB at h
  rw [if_neg (by decide), if_neg (by decide), if_pos rfl, Bool.and_eq_true, Bool.and_eq_true, Bool.and_eq_true, decide_eq_true_eq] at h
  refine ⟨h.1.1.1, h.1.1.2, h.1.2, ?_⟩
  have h2 := h.2
  cases q : (be A).testBit B
  · rfl
  · rw [q] at h2; cases h2
theorem may3 {th A B : Nat} {be : Nat → Nat} (h : mayB th be 3 A B = true) : (be A).testBit B = true := by
  unfold mayB at h
  rw [if_neg (by decide), if_neg (by decide), if_neg (by decide)] at h
  exact h
theorem mem_snoc {α : Type} {l : List α} {x y : α} (h : x ∈ l ++ [y]) : x ∈ l ∨ x = y := by
  rcases List.mem_append.mp h with h | h
  · exact Or.inl h
  · exact Or.inr (List.mem_singleton.mp h)
/-- the piece of A by the joined graph, by bits -/
theorem pOf_J {nr : Nat → Nat} (g : Gr nr) {A : Nat} (hA : A < 9) : ∀ x, (pOf nr A).testBit x = true ↔ cn nr A x := fun x => pOf_bit g hA
theorem lR_wv {J : Nat} {a b : Nat → Nat} {x : Nat} : lR J (wv J a) (wv J b) x = true ↔ J.testBit x = true ∨ 0 < a x ∨ 0 < b x := by
  rw [lR_iff]
  unfold wv
  by_cases z : J.testBit x = true
  · simp [z]
  · simp [z]
set_option maxHeartbeats 1000000 in
theorem TV_step {ac k : Nat} {τ : TT} (h : TV τ k) (ha : AV ac) (hm : mayB τ.1 τ.2.2.1 (ac >>> 8) (ac >>> 4 &&& 15) (ac &&& 15) = true) : TV (tS ac (k + 1) τ) (k + 1) := by
  obtain ⟨pts, edg, nr, rt, sc, bs⟩ := τ
  obtain ⟨hT, hE, ⟨po, pcs, hL, hc⟩, hb⟩ := h
  obtain ⟨a1, hA, hB, hab⟩ := ha
  have hk4 : ac >>> 8 < 4 := by rw [Nat.shiftRight_eq_div_pow]; omega
  dsimp only at hT hE hL hc hb hm
  have hG := hT.2.1
  have hsck := hT.2.2.2.2.2.2.2.2.1
  have hrtk := hT.2.2.2.2.2.2.2.2.2.1
  have hrt1 := hT.2.2.2.2.2.2.2.2.2.2
  have hbk : ∀ x ∈ bs, 1 ≤ x.1 ∧ x.1 ≤ k + 1 ∧ 1 ≤ x.2 ∧ x.2 ≤ k + 1 := fun x hx => by
    have := hb x hx
    omega
  unfold tS
  dsimp only
  generalize eA : ac >>> 4 &&& 15 = A at *
  generalize eB : ac &&& 15 = B at *
  generalize eK : ac >>> 8 = κ at *
  rcases (show κ = 0 ∨ κ = 1 ∨ κ = 2 ∨ κ = 3 by omega) with e | e | e | e
  · subst e
    rw [if_pos rfl]
    have hn := may0 hm
    have iso := TI_iso hT hA hn
    obtain ⟨l, hl, hlb⟩ := Lab_freeE hL (Or.inl ⟨A, hA, hn⟩)
    refine ⟨TI_come hT hA hn, hE, ⟨_, _, Lab_come hL hG hA hn iso hl hlb, ?_⟩, hbk⟩
    rw [popc_or hlb 9 hl]
    dsimp only
    omega
  · subst e
    rw [if_neg (by decide), if_pos rfl]
    obtain ⟨hin, hn0⟩ := may1 hm
    have iso : ∀ t, (nr A).testBit t = false := fun t => by rw [hn0]; exact Nat.zero_testBit t
    refine ⟨TI_go hT hA hin hn0, hE, ⟨_, _, Lab_go hL hG hA hin iso, ?_⟩, fun x hx => ?_⟩
    · have := popc_nd (hL.2.1 A hA) (hL.2.2.1 A hA hin)
      dsimp only
      rw [List.length_append, List.length_singleton]
      omega
    · rcases mem_snoc hx with hx | hx
      · exact hbk x hx
      · subst hx
        dsimp only
        have h1 := mxS_b (oth := pts ^^^ 1 <<< A) (m := k) (r := sc A) (fun q hq => hsck A q hA hq)
        have h2 := hrtk A hA
        have h3 := hrt1 A hA hin
        unfold bG
        split <;> omega
  · subst e
    rw [if_neg (by decide), if_neg (by decide), if_pos rfl]
    obtain ⟨hne, pA, pB, hnb⟩ := may2 hm
    have g' := nrX_Gr hG hA hB hne
    have hx := nrX_on hG hA hB hne hnb
    have hsum := esum_on hG hA hB hne hnb
    have hsub : ∀ p q, p < 9 → (nrX nr A B p).testBit q = true → pts.testBit p = true := fun p q hp hb2 => by
      rcases (hx p q hp).mp hb2 with r | ⟨r, -⟩ | ⟨r, -⟩
      · exact hT.2.2.1 p q hp r
      · rw [r]; exact pA
      · rw [r]; exact pB
    split
    next hcn =>
      have hcn := (pOf_bit hG hA).mp hcn
      have hs : ∀ p q, p < 9 → (cn (nrX nr A B) p q ↔ cn nr p q) := fun p q hp => cn_loop hG g' hA hB hx hcn hp
      exact ⟨TI_same hT g' hsub hs, by show 2 * (edg + 1) = esum (nrX nr A B) 9; rw [hsum]; omega, ⟨po, pcs, Lab_same hL hs, Nat.le_succ_of_le hc⟩, hbk⟩
    next hcn =>
      have hcn : ¬ cn nr A B := fun z => hcn ((pOf_bit hG hA).mpr z)
      have hpo : po A ≠ po B := fun z => hcn ((hL.2.2.2.2 A B hA hB pA pB).mp z)
      refine ⟨?_, by show 2 * (edg + 1) = esum (nrX nr A B) 9; rw [hsum]; omega, ⟨_, _, Lab_join hL hG g' hA hB hx pA pB hpo, ?_⟩, fun x hx => ?_⟩
      · refine TI_join hT g' hA hB hx hcn pA pB (pOf_J g' hA) (fun x y h1 h2 => sj_scJ h1 h2) (fun x h1 => ?_)
        dsimp only
        by_cases m0 : sc A B = 0
        · rw [if_pos m0, if_pos m0]
          unfold pw
          by_cases z : (pOf (nrX nr A B) A).testBit x = true ∨ 0 < sc A x ∨ 0 < sc B x
          · rw [if_pos ⟨h1, lR_wv.mpr z⟩, if_pos z]
          · rw [if_neg (fun y => z (lR_wv.mp y.2)), if_neg z]
        · rw [if_neg m0, if_neg m0]
      · have := popc_nd (hL.2.1 B hB) (hL.2.2.1 B hB pB)
        dsimp only
        rw [List.length_append, List.length_singleton]
        omega
      · rcases mem_snoc hx with hx | hx
        · exact hbk x hx
        · subst hx
          dsimp only
          have h1 := hsck A B hA hB
          have h2 := hrtk A hA
          have h3 := hrt1 A hA pA
          have h4 := hrtk B hB
          unfold bG
          split <;> omega
  · subst e
    rw [if_neg (by decide), if_neg (by decide), if_neg (by decide)]
    have hnb := may3 hm
    have hne : A ≠ B := fun z => by rw [← z, hG.2.2 A hA] at hnb; cases hnb
    have g' := nrX_Gr hG hA hB hne
    have hx := nrX_off hG hA hB hne hnb
    have hsum := esum_off hG hA hB hne hnb
    have pA := hT.2.2.1 A B hA hnb
    have pB := hT.2.2.1 B A hB (hG.2.1 A B hA hB hnb)
    have hsub : ∀ p q, p < 9 → (nrX nr A B p).testBit q = true → pts.testBit p = true := fun p q hp hb2 => hT.2.2.1 p q hp ((hx p q hp).mpr (Or.inl hb2))
    split
    next hcn =>
      have hcn := (pOf_bit g' hA).mp hcn
      have hs : ∀ p q, p < 9 → (cn (nrX nr A B) p q ↔ cn nr p q) := fun p q hp => (cn_loop g' hG hA hB hx hcn hp).symm
      exact ⟨TI_same hT g' hsub hs, by show 2 * (edg - 1) = esum (nrX nr A B) 9; omega, ⟨po, pcs, Lab_same hL hs, Nat.le_succ_of_le hc⟩, hbk⟩
    next hcn =>
      have hcn : ¬ cn (nrX nr A B) A B := fun z => hcn ((pOf_bit g' hA).mpr z)
      have hAB : cn nr A B := cn_edge hA hnb
      obtain ⟨l, hl, hlb⟩ := Lab_freeE hL (Or.inr ⟨A, B, hA, hB, hne, pA, pB, (hL.2.2.2.2 A B hA hB pA pB).mpr hAB⟩)
      refine ⟨TI_part hT g' hA hB hx hcn (pOf_J g' hA) (pOf_J g' hB), by show 2 * (edg - 1) = esum (nrX nr A B) 9; omega, ⟨_, _, Lab_part (R := pOf (nrX nr A B) B) hL hG g' hA hB hx pA pB hcn (pOf_J g' hB) hl hlb, ?_⟩, hbk⟩
      rw [popc_or hlb 9 hl]
      dsimp only
      omega
end
section
/-! The class's step is the story's step -/
def srt (bs : List (Nat × Nat)) : List (Nat × Nat) := bs.foldl (fun l x => insR x l) []
theorem srt_snoc (bs : List (Nat × Nat)) (x : Nat × Nat) : srt (bs ++ [x]) = insR x (srt bs) := by
  unfold srt
  rw [List.foldl_append]
  rfl
theorem ins_len (bs : List (Nat × Nat)) : ∀ l, (bs.foldl (fun l x => insR x l) l).length = l.length + bs.length := by
  induction bs with
  | nil => intro l; rfl
  | cons x bs ih =>
    intro l
    rw [List.foldl_cons, ih, insR_len, List.length_cons]
    omega
theorem srt_len (bs : List (Nat × Nat)) : (srt bs).length = bs.length := by
  unfold srt
  rw [ins_len]
  simp
section CS
variable {d b : Nat} {pre suf : mH} {pts edg : Nat} {nr rt : Nat → Nat} {sc : Nat → Nat → Nat} {wf ws : Nat → Nat} {bsz bop : Nat} {bbg ben : Nat → Nat} {Q : Option Value → mH → Prop}
set_option maxHeartbeats 1000000 in
theorem r_Sto_stepT (hb : pre.length = b) {ac k : Nat} {bs : List (Nat × Nat)} (hTV : TV (pts, edg, nr, rt, sc, bs) k) (hk : k < 40) (ha : AV ac) (hm : mayB pts nr (ac >>> 8) (ac >>> 4 &&& 15) (ac &&& 15) = true) (hBL : BL bsz bbg ben (srt bs)) (hbv : ∀ i, i < 40 → bbg i < 2 ^ 31 ∧ ben i < 2 ^ 31)
    (hQ : ∀ wf' ws' bsz' bbg' ben', BL bsz' bbg' ben' (srt (tS ac (k + 1) (pts, edg, nr, rt, sc, bs)).2.2.2.2.2) → (∀ i, i < 40 → bbg' i < 2 ^ 31 ∧ ben' i < 2 ^ 31) → Q none (sW b pre (tS ac (k + 1) (pts, edg, nr, rt, sc, bs)).1 (tS ac (k + 1) (pts, edg, nr, rt, sc, bs)).2.1 (tS ac (k + 1) (pts, edg, nr, rt, sc, bs)).2.2.1 (tS ac (k + 1) (pts, edg, nr, rt, sc, bs)).2.2.2.1 (tS ac (k + 1) (pts, edg, nr, rt, sc, bs)).2.2.2.2.1 wf' ws' bsz' bop bbg' ben' suf)) :
    Rn mprog (d + 5) n_Sto_step [.ref b, .int (nI ac), .int (nI (k + 1))] (sW b pre pts edg nr rt sc wf ws bsz bop bbg ben suf) Q := by
  obtain ⟨hT, hE, ⟨po, pcs, hL, hc⟩, hbb⟩ := hTV
  obtain ⟨a1, hA, hB, hab⟩ := ha
  dsimp only at hT hE hL hc hbb
  have hk4 : ac >>> 8 < 4 := by rw [Nat.shiftRight_eq_div_pow]; omega
  have hG := hT.2.1
  have hpt := hT.1
  have hsc : ∀ p q, p < 9 → q < 9 → sc p q < 1000 := fun p q hp hq => by have := hT.2.2.2.2.2.2.2.2.1 p q hp hq; omega
  have hrt : ∀ p, p < 9 → rt p < 1000 := fun p hp => by have := hT.2.2.2.2.2.2.2.2.2.1 p hp; omega
  have hbz : bsz = bs.length := by rw [← hBL.1, srt_len]
  have hbs : bsz < 40 := by omega
  have n99 : ¬ k + 1 = 99 := by omega
  rcases (show ac >>> 8 = 0 ∨ ac >>> 8 = 1 ∨ ac >>> 8 = 2 ∨ ac >>> 8 = 3 by omega) with e | e | e | e
  · rw [e] at hm
    have hn := may0 hm
    have et : tS ac (k + 1) (pts, edg, nr, rt, sc, bs) = (pts ^^^ 1 <<< (ac >>> 4 &&& 15), edg, nr, uN' rt (ac >>> 4 &&& 15) (k + 1), sc, bs) := by
      unfold tS
      rw [if_pos e]
    rw [et] at hQ
    dsimp only at hQ
    exact r_Sto_step0 hb a1 hA hB (by omega) hpt hG.1 e (hab (by omega)) hn (xor_lt hpt hA) (by rw [xor_bit, hn, decide_eq_true rfl]; rfl) (hQ wf ws bsz bbg ben hBL hbv)
  · rw [e] at hm
    obtain ⟨hin, hn0⟩ := may1 hm
    have et : tS ac (k + 1) (pts, edg, nr, rt, sc, bs) = (pts ^^^ 1 <<< (ac >>> 4 &&& 15), edg, nr, uN' rt (ac >>> 4 &&& 15) 0, kz sc (ac >>> 4 &&& 15) 9, bs ++ [(bG (mxS (pts ^^^ 1 <<< (ac >>> 4 &&& 15)) (sc (ac >>> 4 &&& 15)) 9) (rt (ac >>> 4 &&& 15)), k + 1)]) := by
      unfold tS
      rw [if_neg (by omega), if_pos e]
    rw [et] at hQ
    dsimp only at hQ
    rw [srt_snoc] at hQ
    refine r_Sto_step1 hb a1 hA hB (by omega) hpt hG.1 hbs hbv hsc hrt e (hab (by omega)) hin (xor_lt hpt hA) (by rw [xor_bit, hin, decide_eq_true rfl]; rfl) (fun p hp1 hp2 hp3 => ?_)
    rw [if_neg n99]
    have hbG : bG (mxS (pts ^^^ 1 <<< (ac >>> 4 &&& 15)) (sc (ac >>> 4 &&& 15)) 9) (rt (ac >>> 4 &&& 15)) < 2 ^ 31 := by
      have h1 := mxS_b (oth := pts ^^^ 1 <<< (ac >>> 4 &&& 15)) (m := 999) (r := sc (ac >>> 4 &&& 15)) (fun q hq => by have := hsc _ q hA hq; omega)
      have h2 := hrt _ hA
      unfold bG
      split <;> omega
    exact hQ wf ws _ _ _ (BL_ins hBL hp1 hp2 hp3) (fun j hj => ⟨inA_b (fun t ht => (hbv t ht).1) hbG hp1 hbs j hj, inA_b (fun t ht => (hbv t ht).2) (by omega) hp1 hbs j hj⟩)
  · rw [e] at hm
    obtain ⟨hne, pA, pB, hnb⟩ := may2 hm
    have g' := nrX_Gr hG hA hB hne
    have hx := nrX_on hG hA hB hne hnb
    have hbit2 : (nrX nr (ac >>> 4 &&& 15) (ac &&& 15) (ac >>> 4 &&& 15)).testBit (ac &&& 15) = true := (hx _ _ hA).mpr (Or.inr (Or.inl ⟨rfl, rfl⟩))
    refine r_Sto_step2 hb a1 hA hB (by omega) hpt hG.1 hbs hbv hsc hrt hne pA pB g'.1 e hnb hbit2 ?_ ?_ ?_
    · intro R J hR hRb hJ p hp q1 q2
      have hncn : ¬ cn nr (ac >>> 4 &&& 15) (ac &&& 15) := fun z => by rw [(cn_R hR).mpr z] at hRb; cases hRb
      unfold wv at q1 q2
      by_cases z : J.testBit p = true
      · rw [if_pos z] at q1; omega
      · rw [if_neg z] at q1 q2
        have u := hT.2.2.2.2.2.2.1 (ac >>> 4 &&& 15) p (ac &&& 15) hA hp hB hncn
        rw [hT.2.2.2.1 p (ac &&& 15) hp hB] at u
        omega
    · intro R hR hRb
      have et : tS ac (k + 1) (pts, edg, nr, rt, sc, bs) = (pts, edg + 1, nrX nr (ac >>> 4 &&& 15) (ac &&& 15), rt, sc, bs) := by
        unfold tS
        rw [if_neg (by omega), if_neg (by omega), if_pos e]
        dsimp only
        rw [if_pos (by rw [← IsR_pOf hR]; exact hRb)]
      rw [et] at hQ
      exact hQ wf ws bsz bbg ben hBL hbv
    · intro R J hR hRb hJ p hp1 hp2 hp3
      have eJ := IsR_pOf hJ
      have et : tS ac (k + 1) (pts, edg, nr, rt, sc, bs) = (pts, edg + 1, nrX nr (ac >>> 4 &&& 15) (ac &&& 15), (if sc (ac >>> 4 &&& 15) (ac &&& 15) = 0 then pw 9 (lR J (wv J (sc (ac >>> 4 &&& 15))) (wv J (sc (ac &&& 15)))) (fun _ => min (rt (ac >>> 4 &&& 15)) (rt (ac &&& 15))) rt else rt), sj (sc (ac >>> 4 &&& 15) (ac &&& 15)) J (wv J (sc (ac >>> 4 &&& 15))) (wv J (sc (ac &&& 15))) sc 9, bs ++ [(bG (sc (ac >>> 4 &&& 15) (ac &&& 15)) (max (rt (ac >>> 4 &&& 15)) (rt (ac &&& 15))), k + 1)]) := by
        unfold tS
        rw [if_neg (by omega), if_neg (by omega), if_pos e]
        dsimp only
        rw [if_neg (by rw [← IsR_pOf hR, hRb]; decide), ← eJ]
      rw [et] at hQ
      dsimp only at hQ
      rw [srt_snoc] at hQ
      rw [if_neg n99]
      have hf9 : ∀ q, q < 9 → pw 9 (fun _ => true) (wv J (sc (ac >>> 4 &&& 15))) wf q = wv J (sc (ac >>> 4 &&& 15)) q := fun q hq => pw_in hq rfl
      have hs9 : ∀ q, q < 9 → pw 9 (fun _ => true) (wv J (sc (ac &&& 15))) ws q = wv J (sc (ac &&& 15)) q := fun q hq => pw_in hq rfl
      rw [sj_congr (fun q hq => ⟨hf9 q hq, hs9 q hq⟩), pw_congr (c' := lR J (wv J (sc (ac >>> 4 &&& 15))) (wv J (sc (ac &&& 15)))) (fun q hq => by unfold lR; rw [hf9 q hq, hs9 q hq])]
      have hbG : bG (sc (ac >>> 4 &&& 15) (ac &&& 15)) (max (rt (ac >>> 4 &&& 15)) (rt (ac &&& 15))) < 2 ^ 31 := by
        have h1 := hsc _ _ hA hB
        have h2 := hrt _ hA
        have h3 := hrt _ hB
        unfold bG
        split <;> omega
      exact hQ _ _ _ _ _ (BL_ins hBL hp1 hp2 hp3) (fun j hj => ⟨inA_b (fun t ht => (hbv t ht).1) hbG hp1 hbs j hj, inA_b (fun t ht => (hbv t ht).2) (by omega) hp1 hbs j hj⟩)
  · rw [e] at hm
    have hnb := may3 hm
    have hne : ac >>> 4 &&& 15 ≠ ac &&& 15 := fun z => by rw [← z, hG.2.2 _ hA] at hnb; cases hnb
    have g' := nrX_Gr hG hA hB hne
    have pA := hT.2.2.1 _ _ hA hnb
    have pB := hT.2.2.1 _ _ hB (hG.2.1 _ _ hA hB hnb)
    have hsum := esum_off hG hA hB hne hnb
    refine r_Sto_step3 hb a1 hA hB (by omega) hpt hG.1 hbs hbv hsc hrt hne pA pB g'.1 e (by omega) hnb ?_ ?_
    · intro R2 hR hRb
      have et : tS ac (k + 1) (pts, edg, nr, rt, sc, bs) = (pts, edg - 1, nrX nr (ac >>> 4 &&& 15) (ac &&& 15), rt, sc, bs) := by
        unfold tS
        rw [if_neg (by omega), if_neg (by omega), if_neg (by omega)]
        dsimp only
        rw [if_pos (by rw [← IsR_pOf hR]; exact hRb)]
      rw [et] at hQ
      exact hQ wf ws bsz bbg ben hBL hbv
    · intro R2 fi se hR hRb hfi hse
      have et : tS ac (k + 1) (pts, edg, nr, rt, sc, bs) = (pts, edg - 1, nrX nr (ac >>> 4 &&& 15) (ac &&& 15), rt, kP sc fi se (k + 1) 9, bs) := by
        unfold tS
        rw [if_neg (by omega), if_neg (by omega), if_neg (by omega)]
        dsimp only
        rw [if_neg (by rw [← IsR_pOf hR, hRb]; decide), ← IsR_pOf hfi, ← IsR_pOf hse]
      rw [et] at hQ
      exact hQ wf ws bsz bbg ben hBL hbv
end CS
end
section
/-! The story of a row -/
def EqT (τ υ : TT) : Prop := τ.1 = υ.1 ∧ τ.2.1 = υ.2.1 ∧ (∀ p, p < 9 → τ.2.2.1 p = υ.2.2.1 p) ∧ (∀ p, p < 9 → τ.2.2.2.1 p = υ.2.2.2.1 p) ∧ (∀ p q, p < 9 → q < 9 → τ.2.2.2.2.1 p q = υ.2.2.2.2.1 p q) ∧ τ.2.2.2.2.2 = υ.2.2.2.2.2
theorem ClR_congr {nr nr' : Nat → Nat} (h : ∀ p, p < 9 → nr p = nr' p) {S : Nat} (hc : ClR nr S) : ClR nr' S := fun p hp a t ht => hc p hp a t (by rw [h p hp]; exact ht)
theorem pOf_congr {nr nr' : Nat → Nat} (h : ∀ p, p < 9 → nr p = nr' p) (p : Nat) : pOf nr p = pOf nr' p := by
  have h' : ∀ p, p < 9 → nr' p = nr p := fun p hp => (h p hp).symm
  have e : IsR nr p = IsR nr' p := funext fun R => propext ⟨fun z => ⟨z.1, z.2.1, ClR_congr h z.2.2.1, fun S a b => z.2.2.2 S a (ClR_congr h' b)⟩, fun z => ⟨z.1, z.2.1, ClR_congr h' z.2.2.1, fun S a b => z.2.2.2 S a (ClR_congr h b)⟩⟩
  unfold pOf
  rw [e]
theorem mxS_congr {oth : Nat} {r r' : Nat → Nat} (h : ∀ q, q < 9 → r q = r' q) : ∀ i, i ≤ 9 → mxS oth r i = mxS oth r' i
  | 0, _ => rfl
  | i + 1, hi => by
    unfold mxS
    rw [mxS_congr h i (by omega), h i (by omega)]
theorem uN_congr {g g' : Nat → Nat} {A v : Nat} (h : ∀ p, p < 9 → g p = g' p) : ∀ p, p < 9 → uN' g A v p = uN' g' A v p := fun p hp => by
  unfold uN'
  rw [h p hp]
theorem nrX_congr {nr nr' : Nat → Nat} {A B : Nat} (hA : A < 9) (hB : B < 9) (h : ∀ p, p < 9 → nr p = nr' p) : ∀ p, p < 9 → nrX nr A B p = nrX nr' A B p := fun p hp => by
  unfold nrX uN'
  rw [h p hp, h A hA, h B hB]
theorem mayB_congr {th κ A B : Nat} {be be' : Nat → Nat} (hA : A < 9) (h : ∀ p, p < 9 → be p = be' p) : mayB th be κ A B = mayB th be' κ A B := by
  unfold mayB
  rw [h A hA]
theorem EqT.rfl' (τ : TT) : EqT τ τ := ⟨rfl, rfl, fun _ _ => rfl, fun _ _ => rfl, fun _ _ _ _ => rfl, rfl⟩
theorem EqT.symm' {τ υ : TT} (h : EqT τ υ) : EqT υ τ := ⟨h.1.symm, h.2.1.symm, fun p hp => (h.2.2.1 p hp).symm, fun p hp => (h.2.2.2.1 p hp).symm, fun p q hp hq => (h.2.2.2.2.1 p q hp hq).symm, h.2.2.2.2.2.symm⟩
theorem wv_congr {J : Nat} {r r' : Nat → Nat} (h : ∀ q, q < 9 → r q = r' q) : ∀ q, q < 9 → wv J r q = wv J r' q := fun q hq => by
  unfold wv
  rw [h q hq]
set_option maxHeartbeats 1000000 in
theorem tS_congr {ac k : Nat} {τ υ : TT} (ha : AV ac) (h : EqT τ υ) : EqT (tS ac k τ) (tS ac k υ) := by
  obtain ⟨pts, edg, nr, rt, sc, bs⟩ := τ
  obtain ⟨pts', edg', nr', rt', sc', bs'⟩ := υ
  obtain ⟨h1, h2, h3, h4, h5, h6⟩ := h
  dsimp only at h1 h2 h3 h4 h5 h6
  subst h1; subst h2; subst h6
  obtain ⟨a1, hA, hB, -⟩ := ha
  have hnx := nrX_congr hA hB h3
  unfold tS
  dsimp only
  generalize ac >>> 4 &&& 15 = A at *
  generalize ac &&& 15 = B at *
  by_cases e0 : ac >>> 8 = 0
  · rw [if_pos e0, if_pos e0]
    exact ⟨rfl, rfl, h3, uN_congr h4, h5, rfl⟩
  · rw [if_neg e0, if_neg e0]
    by_cases e1 : ac >>> 8 = 1
    · rw [if_pos e1, if_pos e1]
      refine ⟨rfl, rfl, h3, uN_congr h4, fun p q hp hq => ?_, ?_⟩
      · show kz sc A 9 p q = kz sc' A 9 p q
        unfold kz
        rw [h5 p q hp hq]
      · show bs ++ [_] = bs ++ [_]
        rw [mxS_congr (fun q hq => h5 A q hA hq) 9 (Nat.le_refl 9), h4 A hA]
    · rw [if_neg e1, if_neg e1]
      by_cases e2 : ac >>> 8 = 2
      · rw [if_pos e2, if_pos e2, pOf_congr h3 A]
        by_cases ec : (pOf nr' A).testBit B = true
        · rw [if_pos ec, if_pos ec]
          exact ⟨rfl, rfl, hnx, h4, h5, rfl⟩
        · rw [if_neg ec, if_neg ec, pOf_congr hnx A]
          generalize pOf (nrX nr' A B) A = J
          have w1 := wv_congr (J := J) (fun q hq => h5 A q hA hq)
          have w2 := wv_congr (J := J) (fun q hq => h5 B q hB hq)
          have eAB := h5 A B hA hB
          refine ⟨rfl, rfl, hnx, fun p hp => ?_, fun p q hp hq => ?_, ?_⟩
          · show (if sc A B = 0 then pw 9 (lR J (wv J (sc A)) (wv J (sc B))) (fun _ => min (rt A) (rt B)) rt else rt) p = (if sc' A B = 0 then pw 9 (lR J (wv J (sc' A)) (wv J (sc' B))) (fun _ => min (rt' A) (rt' B)) rt' else rt') p
            by_cases m0 : sc' A B = 0
            · rw [if_pos m0, if_pos (eAB.trans m0)]
              unfold pw lR
              rw [w1 p hp, w2 p hp, h4 p hp, h4 A hA, h4 B hB]
            · rw [if_neg m0, if_neg (fun z => m0 (eAB.symm.trans z))]
              exact h4 p hp
          · show sj (sc A B) J (wv J (sc A)) (wv J (sc B)) sc 9 p q = sj (sc' A B) J (wv J (sc' A)) (wv J (sc' B)) sc' 9 p q
            rw [eAB]
            unfold sj
            rw [w1 p hp, w2 p hp, w1 q hq, w2 q hq, h5 p q hp hq]
          · show bs ++ [(bG (sc A B) (max (rt A) (rt B)), k)] = bs ++ [(bG (sc' A B) (max (rt' A) (rt' B)), k)]
            rw [eAB, h4 A hA, h4 B hB]
      · rw [if_neg e2, if_neg e2, pOf_congr hnx A, pOf_congr hnx B]
        by_cases ec : (pOf (nrX nr' A B) A).testBit B = true
        · rw [if_pos ec, if_pos ec]
          exact ⟨rfl, rfl, hnx, h4, h5, rfl⟩
        · rw [if_neg ec, if_neg ec]
          refine ⟨rfl, rfl, hnx, h4, fun p q hp hq => ?_, rfl⟩
          show kP sc _ _ k 9 p q = kP sc' _ _ k 9 p q
          unfold kP
          rw [h5 p q hp hq]
/-- the story of the first acts of a row -/
def T0 : TT := (0, 0, fun _ => 0, fun _ => 0, fun _ _ => 0, [])
noncomputable def stR (ra : Nat → Nat) : Nat → TT
  | 0 => T0
  | i + 1 => tS (ra i) (i + 1) (stR ra i)
def mayT (τ : TT) (ac : Nat) : Bool := mayB τ.1 τ.2.2.1 (ac >>> 8) (ac >>> 4 &&& 15) (ac &&& 15)
/-- the first acts of a row can be done -/
def okR (ra : Nat → Nat) (k : Nat) : Prop := ∀ i, i < k → mayT (stR ra i) (ra i) = true
theorem TV_0 : TV T0 0 := ⟨TI_0 (fun _ _ => rfl) (fun _ _ => rfl) (fun _ _ _ _ => rfl), rfl, ⟨fun _ => 0, 0, Lab_0 (fun _ _ => by decide), by decide⟩, fun x hx => absurd hx List.not_mem_nil⟩
theorem TV_run {ra : Nat → Nat} : ∀ k, (∀ i, i < k → AV (ra i)) → okR ra k → TV (stR ra k) k
  | 0, _, _ => TV_0
  | k + 1, ha, ho => TV_step (TV_run k (fun i hi => ha i (by omega)) (fun i hi => ho i (by omega))) (ha k (Nat.lt_succ_self k)) (ho k (Nat.lt_succ_self k))
/-- TV speaks of the nine alone -/
theorem TI_congr {pts k : Nat} {nr nr' rt rt' : Nat → Nat} {sc sc' : Nat → Nat → Nat} (h : TI pts nr rt sc k) (h3 : ∀ p, p < 9 → nr p = nr' p) (h4 : ∀ p, p < 9 → rt p = rt' p) (h5 : ∀ p q, p < 9 → q < 9 → sc p q = sc' p q) : TI pts nr' rt' sc' k := by
  have cc : ∀ p q, (cn nr' p q ↔ cn nr p q) := fun p q => ⟨fun z S a b => z S a (ClR_congr h3 b), fun z S a b => z S a (ClR_congr (fun p hp => (h3 p hp).symm) b)⟩
  obtain ⟨i1, ⟨g1, g2, g3⟩, i3, i4, i5, i6, i7, i8, i9, i10, i11⟩ := h
  refine ⟨i1, ⟨fun p hp => by rw [← h3 p hp]; exact g1 p hp, fun p q hp hq z => by rw [← h3 q hq]; rw [← h3 p hp] at z; exact g2 p q hp hq z, fun p hp => by rw [← h3 p hp]; exact g3 p hp⟩, fun p q hp z => by rw [← h3 p hp] at z; exact i3 p q hp z, fun p q hp hq => by rw [← h5 p q hp hq, ← h5 q p hq hp]; exact i4 p q hp hq, fun p q hp hq z => ?_, fun p p' q hp hp' hq z => ?_, fun p q r hp hq hr z => ?_, fun p q hp hq z => ?_, fun p q hp hq => by rw [← h5 p q hp hq]; exact i9 p q hp hq, fun p hp => by rw [← h4 p hp]; exact i10 p hp, fun p hp z => by rw [← h4 p hp]; exact i11 p hp z⟩
  · rw [← h5 p q hp hq] at z
    rw [cc]
    exact i5 p q hp hq z
  · rw [cc] at z
    rw [← h5 p q hp hq, ← h5 p' q hp' hq]
    exact i6 p p' q hp hp' hq z
  · rw [cc] at z
    rw [← h5 p q hp hq, ← h5 q r hq hr, ← h5 p r hp hr]
    exact i7 p q r hp hq hr z
  · rw [cc, ← h5 p q hp hq] at z
    rw [← h4 p hp, ← h4 q hq]
    exact i8 p q hp hq z
theorem esum_congr {nr nr' : Nat → Nat} (h : ∀ p, p < 9 → nr p = nr' p) : ∀ n, n ≤ 9 → esum nr n = esum nr' n
  | 0, _ => rfl
  | n + 1, hn => by
    unfold esum
    rw [esum_congr h n (by omega), h n (by omega)]
theorem TV_congr {τ υ : TT} {k : Nat} (h : TV τ k) (e : EqT τ υ) : TV υ k := by
  obtain ⟨pts, edg, nr, rt, sc, bs⟩ := τ
  obtain ⟨pts', edg', nr', rt', sc', bs'⟩ := υ
  obtain ⟨h1, h2, h3, h4, h5, h6⟩ := e
  dsimp only at h1 h2 h3 h4 h5 h6
  subst h1; subst h2; subst h6
  obtain ⟨hT, hE, ⟨po, pcs, hL, hc⟩, hb⟩ := h
  have cc : ∀ p q, (cn nr' p q ↔ cn nr p q) := fun p q => ⟨fun z S a b => z S a (ClR_congr h3 b), fun z S a b => z S a (ClR_congr (fun p hp => (h3 p hp).symm) b)⟩
  exact ⟨TI_congr hT h3 h4 h5, by show 2 * edg = esum nr' 9; rw [← esum_congr h3 9 (Nat.le_refl 9)]; exact hE, ⟨po, pcs, Lab_same hL (fun p q _ => cc p q), hc⟩, hb⟩
end
section
/-! how many bars are open -/
theorem opL_congr {nr nr' rt rt' : Nat → Nat} {sc sc' : Nat → Nat → Nat} (h3 : ∀ p, p < 9 → nr p = nr' p) (h4 : ∀ p, p < 9 → rt p = rt' p) (h5 : ∀ p q, p < 9 → q < 9 → sc p q = sc' p q) : ∀ m i left, i + m ≤ 9 → opL nr rt sc m i left = opL nr' rt' sc' m i left
  | 0, _, _, _ => rfl
  | m + 1, i, left, hi => by
    unfold opL
    rw [pOf_congr h3 i, opL_congr h3 h4 h5 m (i + 1) left (by omega), opL_congr h3 h4 h5 m (i + 1) (nd left (pOf nr' i)) (by omega), mxS_congr (fun q hq => h5 i q (by omega) hq) 9 (Nat.le_refl 9), h4 i (by omega)]
theorem opL_len {pts pcs : Nat} {nr po rt : Nat → Nat} {sc : Nat → Nat → Nat} (g : Gr nr) (hL : Lab pts nr po pcs) : ∀ m i left L, i + m = 9 → L < 512 → (∀ t, left.testBit t = true → pts.testBit t = true ∧ t < 9 ∧ L.testBit (po t) = true) → (opL nr rt sc m i left).length ≤ popc L 9
  | 0, _, _, _, _, _, _ => Nat.zero_le _
  | m + 1, i, left, L, hi, hL9, hl => by
    unfold opL
    by_cases e : left.testBit i = true
    · rw [if_pos e, List.length_cons]
      obtain ⟨pi, i9, Li⟩ := hl i e
      have hp := popc_nd (hL.2.1 i i9) Li
      have ih := opL_len (rt := rt) (sc := sc) g hL m (i + 1) (nd left (pOf nr i)) (nd L (1 <<< po i)) (by omega) (nd_lt (n := 9) hL9) (fun t ht => by
        rw [nd_bit, Bool.and_eq_true] at ht
        obtain ⟨h1, h2⟩ := ht
        obtain ⟨pt, t9, Lt⟩ := hl t h1
        refine ⟨pt, t9, ?_⟩
        rw [nd_bit, sh_bit, Bool.and_eq_true]
        refine ⟨Lt, ?_⟩
        have hne : po t ≠ po i := fun z => by
          have c1 := (hL.2.2.2.2 i t i9 t9 pi pt).mp z.symm
          rw [(pOf_bit g i9).mpr c1] at h2
          cases h2
        rw [decide_eq_false hne]
        rfl)
      omega
    · rw [if_neg e]
      exact opL_len g hL m (i + 1) left L (by omega) hL9 hl
/-- the open bars of a story -/
noncomputable def opT (τ : TT) : List (Nat × Nat) := opL τ.2.2.1 τ.2.2.2.1 τ.2.2.2.2.1 9 0 τ.1
theorem opT_congr {τ υ : TT} (h : EqT τ υ) : opT τ = opT υ := by
  unfold opT
  rw [h.1]
  exact opL_congr h.2.2.1 h.2.2.2.1 h.2.2.2.2.1 9 0 _ (Nat.le_refl 9)
theorem opT_len {τ : TT} {k : Nat} (h : TV τ k) : τ.2.2.2.2.2.length + (opT τ).length ≤ k := by
  obtain ⟨hT, -, ⟨po, pcs, hL, hc⟩, -⟩ := h
  have := opL_len (rt := τ.2.2.2.1) (sc := τ.2.2.2.2.1) hT.2.1 hL 9 0 τ.1 pcs rfl hL.1 (fun t ht => ⟨ht, lt9 hT.1 ht, hL.2.2.1 t (lt9 hT.1 ht) ht⟩)
  unfold opT
  omega
/-- all bars of the first acts of a row, the last one first -/
noncomputable def bsR (ra : Nat → Nat) (k : Nat) : List (Nat × Nat) := srt ((stR ra k).2.2.2.2.2 ++ opT (stR ra k))
theorem srt_app (a b : List (Nat × Nat)) : srt (a ++ b) = b.foldl (fun l x => insR x l) (srt a) := by
  unfold srt
  rw [List.foldl_append]
end
section
/-! Story.play -/
theorem r_Sto_open {d b : Nat} {pre suf : mH} {pts : Nat} {edg : Nat} {nr : Nat → Nat} {rt : Nat → Nat} {sc : Nat → Nat → Nat} {wf : Nat → Nat} {ws : Nat → Nat} {bsz : Nat} {bop : Nat} {bbg : Nat → Nat} {ben : Nat → Nat} {Q : Option Value → mH → Prop} (hb : pre.length = b) (hpt : pts < 512) (hnr : ∀ p, p < 9 → nr p < 512) (hsc : ∀ p q, p < 9 → q < 9 → sc p q < 1000) (hrt : ∀ p, p < 9 → rt p < 1000) {rb : List (Nat × Nat)} (hBL : BL bsz bbg ben rb) (hbv : ∀ i, i < 40 → bbg i < 2 ^ 31 ∧ ben i < 2 ^ 31) (hcap : bsz + (opL nr rt sc 9 0 pts).length ≤ 40) (hQ : ∀ bsz2 bop2 bbg2 ben2, BL bsz2 bbg2 ben2 ((opL nr rt sc 9 0 pts).foldl (fun l x => insR x l) rb) → bop2 = bop + (opL nr rt sc 9 0 pts).length → (∀ i, i < 40 → bbg2 i < 2 ^ 31 ∧ ben2 i < 2 ^ 31) → Q none (sW b pre pts edg nr rt sc wf ws bsz2 bop2 bbg2 ben2 suf)) : Rn mprog (d + 5) n_Sto_addOpenBars [.ref b] (sW b pre pts edg nr rt sc wf ws bsz bop bbg ben suf) Q := by
  refine Rn.in rfl rfl rfl ?_
  show WP _ _ _ _ 0 [.ref b, .long 0, .long 0] [] (sW b pre pts edg nr rt sc wf ws bsz bop bbg ben suf)
  refine wq_aload_n rfl rfl ?_
  refine wq_getfield (v := .ref (b + 1)) rfl (sW_o0 hb) rfl ?_
  refine wq_virt (b := b + 1) (a := []) (rest := []) rfl rfl rfl rfl rfl (sW_o1 hb) ?_
  rw [sW_n]
  refine r_Net_points (sW_ln hb) ?_
  rw [← sW_n]
  show WP _ _ _ _ 7 [.ref b, .long 0, .long 0] [.int (nI pts)] (sW b pre pts edg nr rt sc wf ws bsz bop bbg ben suf)
  refine wq_istore_n (lv' := [.ref b, .int (nI pts), .long 0]) rfl rfl rfl ?_
  refine wq_iconst (v := nI 0) rfl (by decide) ?_
  refine wq_istore_n (lv' := [.ref b, .int (nI pts), .int (nI 0)]) rfl rfl rfl ?_
  exact l_Sto_open hb hpt hnr hsc hrt 9 0 pts rb bsz bop bbg ben rfl hpt (fun t h => h) hBL hbv hcap hQ
theorem l_Sto_play {d b : Nat} {pre suf : mH} {Q : Option Value → mH → Prop} (hb : pre.length = b) {c rn acts : Nat} {ra : Nat → Nat} (hrn : rn ≤ 40) (hac : acts ≤ rn) (hav : ∀ i, i < rn → AV (ra i)) (hc : ∀ pts edg nr rt sc wf ws bsz bop bbg ben, (sW b pre pts edg nr rt sc wf ws bsz bop bbg ben suf)[c]? = some (.inr (3, [.ref (c + 1), .int (nI rn)]))) (hc1 : ∀ pts edg nr rt sc wf ws bsz bop bbg ben, (sW b pre pts edg nr rt sc wf ws bsz bop bbg ben suf)[c + 1]? = some (.inl (0, 40, .inl (nA ra)))) (ht : okR ra acts → ∀ pts edg nr rt sc wf ws bsz bop bbg ben bs, EqT (pts, edg, nr, rt, sc, bs) (stR ra acts) → BL bsz bbg ben (bsR ra acts) → bop = (opT (stR ra acts)).length → (∀ i, i < 40 → bbg i < 2 ^ 31 ∧ ben i < 2 ^ 31) → Q (some (.int (nI 1))) (sW b pre pts edg nr rt sc wf ws bsz bop bbg ben suf)) (hf : ¬ okR ra acts → ∀ pts edg nr rt sc wf ws bsz bop bbg ben, (∀ i, i < 40 → bbg i < 2 ^ 31 ∧ ben i < 2 ^ 31) → Q (some (.int (nI 0))) (sW b pre pts edg nr rt sc wf ws bsz bop bbg ben suf)) : ∀ (m k : Nat) (av : Value) (pts : Nat) (edg : Nat) (nr : Nat → Nat) (rt : Nat → Nat) (sc : Nat → Nat → Nat) (wf : Nat → Nat) (ws : Nat → Nat) (bsz : Nat) (bop : Nat) (bbg : Nat → Nat) (ben : Nat → Nat) (bs : List (Nat × Nat)), k + m = acts → okR ra k → EqT (pts, edg, nr, rt, sc, bs) (stR ra k) → BL bsz bbg ben (srt bs) → bop = 0 → (∀ i, i < 40 → bbg i < 2 ^ 31 ∧ ben i < 2 ^ 31) → WP (Rn mprog (d + 5)) k_Sto_play (some .boolean) Q 23 [.ref b, .ref c, .int (nI acts), .int (nI (k + 1)), av] [] (sW b pre pts edg nr rt sc wf ws bsz bop bbg ben suf) := by
  intro m
  induction m with
  | zero =>
    intro k av pts edg nr rt sc wf ws bsz bop bbg ben bs hkm hok hEq hBL hbop hbv
    have e : k = acts := by omega
    subst e
    have hTV := TV_run k (fun i hi => hav i (by omega)) hok
    have hTV2 := TV_congr hTV hEq.symm'
    have hcap := opT_len hTV2
    have hbz : bsz = bs.length := by rw [← hBL.1, srt_len]
    refine wq_iload_n rfl rfl ?_
    refine wq_iload_n rfl rfl ?_
    refine wn_ic_gt rfl (by omega) (by omega) (fun c25 => ?_) (fun c25 => absurd c25 (by omega))
    refine wq_aload_n rfl rfl ?_
    refine wq_virt (b := b) (a := []) (rest := []) rfl rfl rfl rfl rfl (sW_o0 hb) ?_
    refine r_Sto_open hb hTV2.1.1 hTV2.1.2.1.1 (fun p q hp hq => by have := hTV2.1.2.2.2.2.2.2.2.2.1 p q hp hq; dsimp only at this; omega) (fun p hp => by have := hTV2.1.2.2.2.2.2.2.2.2.2.1 p hp; dsimp only at this; omega) hBL hbv (by rw [hbz]; exact Nat.le_trans hcap (by omega)) ?_
    intro bsz2 bop2 bbg2 ben2 g1 g2 g3
    show WP _ _ _ _ 72 [.ref b, .ref c, .int (nI k), .int (nI (k + 1)), av] [] (sW b pre pts edg nr rt sc wf ws bsz2 bop2 bbg2 ben2 suf)
    refine wq_iconst (v := nI 1) rfl (by decide) ?_
    refine wq_iret rfl (by first | exact Or.inl rfl | exact Or.inr rfl) ?_
    refine ht hok _ _ _ _ _ _ _ _ _ _ _ bs hEq ?_ ?_ g3
    · have e1 := opT_congr hEq
      unfold bsR
      rw [← e1, ← hEq.2.2.2.2.2, srt_app]
      exact g1
    · rw [← opT_congr hEq, g2, hbop, Nat.zero_add]
      rfl
  | succ m ih =>
    intro k av pts edg nr rt sc wf ws bsz bop bbg ben bs hkm hok hEq hBL hbop hbv
    have hTV := TV_run k (fun i hi => hav i (by omega)) hok
    have hTV2 := TV_congr hTV hEq.symm'
    have hak := hav k (by omega)
    have hmc : mayB pts nr (ra k >>> 8) (ra k >>> 4 &&& 15) (ra k &&& 15) = mayT (stR ra k) (ra k) := by
      unfold mayT
      rw [← hEq.1]
      exact mayB_congr hak.2.1 hEq.2.2.1
    refine wq_iload_n rfl rfl ?_
    refine wq_iload_n rfl rfl ?_
    refine wn_ic_gt rfl (by omega) (by omega) (fun c25 => absurd c25 (by omega)) (fun c25 => ?_)
    refine wq_iload_n rfl rfl ?_
    refine wq_bipush (v := nI 40) rfl (by decide) ?_
    refine wn_ic_gt rfl (by omega) (by omega) (fun c31 => absurd c31 (by omega)) (fun c31 => ?_)
    refine wq_aload_n rfl rfl ?_
    refine wq_iload_n rfl rfl ?_
    refine wq_virt (b := c) (a := [.int (nI (k + 1))]) (rest := []) rfl rfl rfl rfl rfl (hc _ _ _ _ _ _ _ _ _ _ _) ?_
    refine r_Row_actAt (hc _ _ _ _ _ _ _ _ _ _ _) (hc1 _ _ _ _ _ _ _ _ _ _ _) (by omega) (by omega) hrn ?_
    show WP _ _ _ _ 39 [.ref b, .ref c, .int (nI acts), .int (nI (k + 1)), av] [.int (nI (ra k))] (sW b pre pts edg nr rt sc wf ws bsz bop bbg ben suf)
    refine wq_istore (lv' := [.ref b, .ref c, .int (nI acts), .int (nI (k + 1)), .int (nI (ra k))]) rfl rfl rfl ?_
    refine wq_aload_n rfl rfl ?_
    refine wq_getfield (v := .ref (b + 1)) rfl (sW_o0 hb) rfl ?_
    refine wq_iload rfl rfl ?_
    refine wq_virt (b := b + 1) (a := [.int (nI (ra k))]) (rest := []) rfl rfl rfl rfl rfl (sW_o1 hb) ?_
    rw [sW_n]
    refine r_Net_canDo (sW_ln hb) hak.1 hak.2.1 hak.2.2.1 hTV2.1.1 hTV2.1.2.1.1 (fun c47 => ?_) (fun c47 => ?_)
    · skip
      rw [← sW_n]
      show WP _ _ _ _ 50 [.ref b, .ref c, .int (nI acts), .int (nI (k + 1)), .int (nI (ra k))] [.int (nI 1)] (sW b pre pts edg nr rt sc wf ws bsz bop bbg ben suf)
      refine wq_if_ne rfl (fun _ => ?_) (fun c => absurd c (by decide))
      refine wq_aload_n rfl rfl ?_
      refine wq_iload rfl rfl ?_
      refine wq_iload_n rfl rfl ?_
      refine wq_virt (b := b) (a := [.int (nI (ra k)), .int (nI (k + 1))]) (rest := []) rfl rfl rfl rfl rfl (sW_o0 hb) ?_
      refine r_Sto_stepT hb hTV2 (by omega) hak c47 hBL hbv ?_
      intro wf2 ws2 bsz2 bbg2 ben2 g1 g2
      show WP _ _ _ _ 62 [.ref b, .ref c, .int (nI acts), .int (nI (k + 1)), .int (nI (ra k))] [] (sW b pre ((tS (ra k) (k + 1) (pts, edg, nr, rt, sc, bs)).1) ((tS (ra k) (k + 1) (pts, edg, nr, rt, sc, bs)).2.1) ((tS (ra k) (k + 1) (pts, edg, nr, rt, sc, bs)).2.2.1) ((tS (ra k) (k + 1) (pts, edg, nr, rt, sc, bs)).2.2.2.1) ((tS (ra k) (k + 1) (pts, edg, nr, rt, sc, bs)).2.2.2.2.1) wf2 ws2 bsz2 bop bbg2 ben2 suf)
      refine wn_inc (lv' := [.ref b, .ref c, .int (nI acts), .int (nI (k + 1 + 1)), .int (nI (ra k))]) rfl rfl rfl ?_
      refine wq_goto rfl ?_
      have hok2 : okR ra (k + 1) := fun i hi => by
        rcases Nat.lt_or_eq_of_le (Nat.le_of_lt_succ hi) with r | r
        · exact hok i r
        · rw [r, ← hmc]
          exact c47
      exact ih (k + 1) _ _ _ _ _ _ _ _ _ _ _ _ (tS (ra k) (k + 1) (pts, edg, nr, rt, sc, bs)).2.2.2.2.2 (by omega) hok2 (tS_congr hak hEq) g1 hbop g2
    · skip
      rw [← sW_n]
      show WP _ _ _ _ 50 [.ref b, .ref c, .int (nI acts), .int (nI (k + 1)), .int (nI (ra k))] [.int (nI 0)] (sW b pre pts edg nr rt sc wf ws bsz bop bbg ben suf)
      refine wq_if_ne rfl (fun c => absurd c (by decide)) (fun _ => ?_)
      refine wq_iconst (v := nI 0) rfl (by decide) ?_
      refine wq_iret rfl (by first | exact Or.inl rfl | exact Or.inr rfl) ?_
      refine hf (fun z => ?_) _ _ _ _ _ _ _ _ _ _ _ hbv
      have z1 := z k (by omega)
      rw [← hmc, c47] at z1
      cases z1
theorem r_Sto_play {d b : Nat} {pre suf : mH} {pts : Nat} {edg : Nat} {nr : Nat → Nat} {rt : Nat → Nat} {sc : Nat → Nat → Nat} {wf : Nat → Nat} {ws : Nat → Nat} {bsz : Nat} {bop : Nat} {bbg : Nat → Nat} {ben : Nat → Nat} {Q : Option Value → mH → Prop} (hb : pre.length = b) {c rn acts : Nat} {ra : Nat → Nat} (hrn : rn ≤ 40) (hac : acts ≤ rn) (hav : ∀ i, i < rn → AV (ra i)) (hc : ∀ pts edg nr rt sc wf ws bsz bop bbg ben, (sW b pre pts edg nr rt sc wf ws bsz bop bbg ben suf)[c]? = some (.inr (3, [.ref (c + 1), .int (nI rn)]))) (hc1 : ∀ pts edg nr rt sc wf ws bsz bop bbg ben, (sW b pre pts edg nr rt sc wf ws bsz bop bbg ben suf)[c + 1]? = some (.inl (0, 40, .inl (nA ra)))) (hbv : (∀ i, i < 40 → bbg i < 2 ^ 31 ∧ ben i < 2 ^ 31)) (ht : okR ra acts → ∀ pts edg nr rt sc wf ws bsz bop bbg ben bs, EqT (pts, edg, nr, rt, sc, bs) (stR ra acts) → BL bsz bbg ben (bsR ra acts) → bop = (opT (stR ra acts)).length → (∀ i, i < 40 → bbg i < 2 ^ 31 ∧ ben i < 2 ^ 31) → Q (some (.int (nI 1))) (sW b pre pts edg nr rt sc wf ws bsz bop bbg ben suf)) (hf : ¬ okR ra acts → ∀ pts edg nr rt sc wf ws bsz bop bbg ben, (∀ i, i < 40 → bbg i < 2 ^ 31 ∧ ben i < 2 ^ 31) → Q (some (.int (nI 0))) (sW b pre pts edg nr rt sc wf ws bsz bop bbg ben suf)) : Rn mprog (d + 6) n_Sto_play [.ref b, .ref c, .int (nI acts)] (sW b pre pts edg nr rt sc wf ws bsz bop bbg ben suf) Q := by
  refine Rn.in rfl rfl rfl ?_
  show WP _ _ _ _ 0 [.ref b, .ref c, .int (nI acts), .long 0, .long 0] [] (sW b pre pts edg nr rt sc wf ws bsz bop bbg ben suf)
  refine wq_aload_n rfl rfl ?_
  refine wq_getfield (v := .ref (b + 1)) rfl (sW_o0 hb) rfl ?_
  refine wq_virt (b := b + 1) (a := []) (rest := []) rfl rfl rfl rfl rfl (sW_o1 hb) ?_
  rw [sW_n]
  refine r_Net_empty (sW_ln hb) ?_
  rw [← sW_n]
  show WP _ _ _ _ 7 [.ref b, .ref c, .int (nI acts), .long 0, .long 0] [] (sW b pre 0 0 (fz 0 nr 9) rt sc wf ws bsz bop bbg ben suf)
  refine wq_aload_n rfl rfl ?_
  refine wq_getfield (v := .ref (b + 3)) rfl (sW_o0 hb) rfl ?_
  refine wq_virt (b := b + 3) (a := []) (rest := []) rfl rfl rfl rfl rfl (sW_o3 hb) ?_
  rw [sW_k]
  refine r_Kin_empty (sW_lk hb) ?_
  rw [← sW_k]
  show WP _ _ _ _ 14 [.ref b, .ref c, .int (nI acts), .long 0, .long 0] [] (sW b pre 0 0 (fz 0 nr 9) (fz 0 rt 9) (kE sc) wf ws bsz bop bbg ben suf)
  refine wq_aload_n rfl rfl ?_
  refine wq_getfield (v := .ref (b + 8)) rfl (sW_o0 hb) rfl ?_
  refine wq_virt (b := b + 8) (a := []) (rest := []) rfl rfl rfl rfl rfl (sW_o8 hb) ?_
  rw [sW_b]
  refine r_Bars_empty (sW_lb hb) ?_
  rw [← sW_b]
  show WP _ _ _ _ 21 [.ref b, .ref c, .int (nI acts), .long 0, .long 0] [] (sW b pre 0 0 (fz 0 nr 9) (fz 0 rt 9) (kE sc) wf ws 0 0 bbg ben suf)
  refine wq_iconst (v := nI 1) rfl (by decide) ?_
  refine wq_istore_n (lv' := [.ref b, .ref c, .int (nI acts), .int (nI 1), .long 0]) rfl rfl rfl ?_
  refine l_Sto_play hb hrn hac hav hc hc1 ht hf acts 0 (.long 0) _ _ _ _ _ _ _ _ _ _ _ [] (by omega) (fun i hi => absurd hi (Nat.not_lt_zero i)) ⟨rfl, rfl, fun p hp => if_pos hp, fun p hp => if_pos hp, fun p q hp _ => if_pos hp, rfl⟩ (BL_nil _ _) rfl hbv
end
section
/-! The reference's story and the class's -/
/-- pieces with numbers: roots and kin by numbers are those by points -/
def SK (pts : Nat) (nr rt : Nat → Nat) (sc : Nat → Nat → Nat) (po ro : Nat → Nat) (kf : Nat → Nat → Nat) : Prop :=
  (∀ p, p < 9 → pts.testBit p = true → ro (po p) = rt p) ∧
  (∀ p q, p < 9 → q < 9 → pts.testBit p = true → pts.testBit q = true → ¬ cn nr p q → kf (po p) (po q) = sc p q)
theorem SK_same {pts : Nat} {nr nr' rt po ro : Nat → Nat} {sc kf : Nat → Nat → Nat} (h : SK pts nr rt sc po ro kf) (hc : ∀ p q, p < 9 → (cn nr' p q ↔ cn nr p q)) : SK pts nr' rt sc po ro kf := ⟨h.1, fun p q hp hq a b z => h.2 p q hp hq a b (fun y => z ((hc p q hp).mpr y))⟩
theorem SK_come {pts pcs A l k m : Nat} {nr rt po ro : Nat → Nat} {sc kf : Nat → Nat → Nat} (h : SK pts nr rt sc po ro kf) (hT : TI pts nr rt sc k) (hL : Lab pts nr po pcs) (hA : A < 9) (ha : pts.testBit A = false) (hl : l < 9) (hlb : pcs.testBit l = false) : SK (pts ^^^ 1 <<< A) nr (uN' rt A m) sc (uN' po A l) (uN' ro l m) (kz kf l 9) := by
  obtain ⟨h1, h2⟩ := h
  obtain ⟨l1, l2, l3, l4, l5⟩ := hL
  have bp : ∀ t, (pts ^^^ 1 <<< A).testBit t = true ↔ pts.testBit t = true ∨ t = A := fun t => by
    rw [xor_bit]
    by_cases e : t = A
    · subst e; simp [ha]
    · simp [e]
  have nA : ∀ p, pts.testBit p = true → p ≠ A := fun p q e => by rw [e, ha] at q; cases q
  have nl : ∀ p, p < 9 → pts.testBit p = true → po p ≠ l := fun p hp q e => by
    have := l3 p hp q
    rw [e, hlb] at this
    cases this
  have zA : ∀ q, q < 9 → sc A q = 0 := fun q hq => by
    rcases Nat.eq_zero_or_pos (sc A q) with z | z
    · exact z
    · have := (hT.2.2.2.2.1 A q hA hq z).1
      rw [ha] at this
      cases this
  refine ⟨fun p hp hb => ?_, fun p q hp hq hb1 hb2 hn => ?_⟩
  · rcases (bp p).mp hb with r | r
    · rw [uN_n (nA p r), uN_n (nA p r), uN_n (nl p hp r)]
      exact h1 p hp r
    · subst r
      rw [uN_s, uN_s, uN_s]
  · rcases (bp p).mp hb1 with r1 | r1
    · rw [uN_n (nA p r1)]
      rcases (bp q).mp hb2 with r2 | r2
      · rw [uN_n (nA q r2)]
        have n1 := nl p hp r1
        have n2 := nl q hq r2
        unfold kz
        rw [if_neg (fun z => z.elim (fun z => n1 z.1) (fun z => n2 z.1))]
        exact h2 p q hp hq r1 r2 hn
      · subst r2
        rw [uN_s]
        unfold kz
        rw [if_pos (Or.inr ⟨rfl, l2 p hp⟩), hT.2.2.2.1 p q hp hq]
        exact (zA p hp).symm
    · subst r1
      rw [uN_s]
      have hl2 : uN' po p l q < 9 := by
        unfold uN'
        split
        · exact hl
        · exact l2 q hq
      unfold kz
      rw [if_pos (Or.inl ⟨rfl, hl2⟩)]
      exact (zA q hq).symm
theorem SK_go {pts A : Nat} {nr rt po ro : Nat → Nat} {sc kf : Nat → Nat → Nat} (h : SK pts nr rt sc po ro kf) (hA : A < 9) (ha : pts.testBit A = true) : SK (pts ^^^ 1 <<< A) nr (uN' rt A 0) (kz sc A 9) po ro kf := by
  obtain ⟨h1, h2⟩ := h
  have bp : ∀ t, (pts ^^^ 1 <<< A).testBit t = true ↔ pts.testBit t = true ∧ t ≠ A := fun t => by
    rw [xor_bit]
    by_cases e : t = A
    · subst e; simp [ha]
    · simp [e]
  refine ⟨fun p hp hb => ?_, fun p q hp hq hb1 hb2 hn => ?_⟩
  · obtain ⟨r1, r2⟩ := (bp p).mp hb
    rw [uN_n r2]
    exact h1 p hp r1
  · obtain ⟨r1, r2⟩ := (bp p).mp hb1
    obtain ⟨r3, r4⟩ := (bp q).mp hb2
    unfold kz
    rw [if_neg (fun z => z.elim (fun z => r2 z.1) (fun z => r4 z.1))]
    exact h2 p q hp hq r1 r3 hn
theorem SK_part {pts pcs A B R l k m fi se : Nat} {nr nr' rt po ro : Nat → Nat} {sc kf : Nat → Nat → Nat} (h : SK pts nr rt sc po ro kf) (hT : TI pts nr rt sc k) (hL : Lab pts nr po pcs) (g' : Gr nr') (hA : A < 9) (hB : B < 9) (hx : EdX nr' nr A B) (pA : pts.testBit A = true) (pB : pts.testBit B = true) (hn : ¬ cn nr' A B) (hR : ∀ x, R.testBit x = true ↔ cn nr' B x) (hf : ∀ x, fi.testBit x = true ↔ cn nr' A x) (hs : ∀ x, se.testBit x = true ↔ cn nr' B x) (hl : l < 9) (hlb : pcs.testBit l = false) :
    SK pts nr' rt (kP sc fi se m 9) (pw 9 (fun q => R.testBit q) (fun _ => l) po) (uN' ro l (ro (po A))) (sK (kp kf (po A) l 9) l (po A) m) := by
  obtain ⟨h1, h2⟩ := h
  obtain ⟨l1, l2, l3, l4, l5⟩ := hL
  obtain ⟨i1, i2, i3, i4, i5, i6, i7, i8, i9, i10, i11⟩ := hT
  have vT : ∀ p, p < 9 → cn nr' B p → pw 9 (fun q => R.testBit q) (fun _ => l) po p = l := fun p hp e => pw_in hp ((hR p).mpr e)
  have vF : ∀ p, ¬ cn nr' B p → pw 9 (fun q => R.testBit q) (fun _ => l) po p = po p := fun p e => by
    unfold pw
    rw [if_neg (fun z => e ((hR p).mp z.2))]
  have sy' : ∀ p q, p < 9 → cn nr' p q → cn nr' q p := fun p q hp z => cn_symm g' hp z
  have sy : ∀ p q, p < 9 → cn nr p q → cn nr q p := fun p q hp z => cn_symm i2 hp z
  have up : ∀ p q, cn nr' p q → cn nr p q := fun p q z => cn_more hx z
  have dn : ∀ p q, p < 9 → (cn nr p q ↔ cn nr' p q ∨ (cn nr' p A ∧ cn nr' B q) ∨ (cn nr' p B ∧ cn nr' A q)) := fun p q hp => cn_add g' i2 hA hB hx hp
  have AB : cn nr A B := (dn A B hA).mpr (Or.inr (Or.inl ⟨cn_refl nr' A, cn_refl nr' B⟩))
  have nl : ∀ p, p < 9 → pts.testBit p = true → po p ≠ l := fun p hp q e => by
    have := l3 p hp q
    rw [e, hlb] at this
    cases this
  have inR : ∀ p, p < 9 → cn nr' B p → cn nr A p := fun p hp z => cn_trans AB (up B p z)
  -- q isn't of the two
  have far : ∀ q, q < 9 → ¬ cn nr' B q → ¬ cn nr' A q → ¬ cn nr A q := fun q hq z1 z2 z => by
    rcases (dn A q hA).mp z with y | ⟨-, y⟩ | ⟨y, -⟩
    · exact z2 y
    · exact z1 y
    · exact hn y
  refine ⟨fun p hp hb => ?_, fun p q hp hq hb1 hb2 hnc => ?_⟩
  · by_cases e : cn nr' B p
    · rw [vT p hp e, uN_s, h1 A hA pA]
      exact i8 A p hA hp (Or.inl (inR p hp e))
    · rw [vF p e, uN_n (nl p hp hb)]
      exact h1 p hp hb
  · by_cases e1 : cn nr' B p
    · rw [vT p hp e1]
      have e2 : ¬ cn nr' B q := fun z => hnc (cn_trans (sy' B p hB e1) z)
      rw [vF q e2]
      have pl := nl q hq hb2
      have pAl := nl A hA pA
      by_cases e3 : cn nr' A q
      · have eq : po q = po A := ((l5 A q hA hq pA hb2).mpr (up A q e3)).symm
        rw [eq]
        unfold sK kP
        rw [if_pos (Or.inl ⟨rfl, rfl⟩), if_pos (Or.inr ⟨(hf q).mpr e3, (hs p).mpr e1, hq⟩)]
      · have hfar := far q hq e2 e3
        have ne : po q ≠ po A := fun z => hfar ((l5 A q hA hq pA hb2).mp z.symm)
        unfold sK
        rw [if_neg (fun z => z.elim (fun z => ne z.2) (fun z => pAl z.1.symm))]
        unfold kp kP
        rw [if_pos ⟨rfl, l2 q hq⟩, if_neg pl, if_neg (fun z => z.elim (fun z => e2 ((hs q).mp z.2.1)) (fun z => e3 ((hf q).mp z.1)))]
        rw [h2 A q hA hq pA hb2 hfar]
        exact i6 A p q hA hp hq (inR p hp e1)
    · rw [vF p e1]
      by_cases e2 : cn nr' B q
      · rw [vT q hq e2]
        have pl := nl p hp hb1
        have pAl := nl A hA pA
        by_cases e3 : cn nr' A p
        · have eq : po p = po A := ((l5 A p hA hp pA hb1).mpr (up A p e3)).symm
          rw [eq]
          unfold sK kP
          rw [if_pos (Or.inr ⟨rfl, rfl⟩), if_pos (Or.inl ⟨(hf p).mpr e3, (hs q).mpr e2, hp⟩)]
        · have hfar := far p hp e1 e3
          have ne : po p ≠ po A := fun z => hfar ((l5 A p hA hp pA hb1).mp z.symm)
          unfold sK
          rw [if_neg (fun z => z.elim (fun z => pl z.1) (fun z => ne z.1))]
          unfold kp kP
          rw [if_neg (fun z => pl z.1), if_pos ⟨rfl, l2 p hp⟩, if_neg (fun z => z.elim (fun z => e3 ((hf p).mp z.1)) (fun z => e1 ((hs p).mp z.2.1)))]
          rw [h2 A p hA hp pA hb1 hfar, i4 p q hp hq]
          exact i6 A q p hA hq hp (inR q hq e2)
      · rw [vF q e2]
        have n1 := nl p hp hb1
        have n2 := nl q hq hb2
        unfold sK
        rw [if_neg (fun z => z.elim (fun z => n1 z.1) (fun z => n2 z.2))]
        unfold kp kP
        rw [if_neg (fun z => n1 z.1), if_neg (fun z => n2 z.1), if_neg (fun z => z.elim (fun z => e2 ((hs q).mp z.2.1)) (fun z => e1 ((hs p).mp z.2.1)))]
        refine h2 p q hp hq hb1 hb2 (fun z => ?_)
        rcases (dn p q hp).mp z with y | ⟨-, y⟩ | ⟨y, -⟩
        · exact hnc y
        · exact e2 y
        · exact e1 (sy' p B hp y)
theorem SK_hex {pts pcs A B k : Nat} {nr rt po ro : Nat → Nat} {sc kf : Nat → Nat → Nat} (h : SK pts nr rt sc po ro kf) (hT : TI pts nr rt sc k) (hL : Lab pts nr po pcs) (hA : A < 9) (hB : B < 9) (pA : pts.testBit A = true) (pB : pts.testBit B = true) (hn : ¬ cn nr A B) : ∀ x, bA pcs kf (po A) (po B) (kf (po A) (po B)) x = true → bB pcs kf (po A) (po B) (kf (po A) (po B)) x = true → False := fun x h1 h2 => by
  obtain ⟨a1, a2, a3, a4⟩ := bA_iff.mp h1
  obtain ⟨-, -, -, b4⟩ := bB_iff.mp h2
  obtain ⟨p, hp, pp, e⟩ := hL.2.2.2.1 x a1
  subst e
  have nA : ¬ cn nr A p := fun z => a2 ((hL.2.2.2.2 A p hA hp pA pp).mpr z).symm
  have nB : ¬ cn nr B p := fun z => a3 ((hL.2.2.2.2 B p hB hp pB pp).mpr z).symm
  rw [h.2 A B hA hB pA pB hn] at a4 b4
  rw [h.2 A p hA hp pA pp nA] at a4
  rw [h.2 B p hB hp pB pp nB] at b4
  have u := hT.2.2.2.2.2.2.1 A p B hA hp hB hn
  rw [hT.2.2.2.1 p B hp hB] at u
  omega
theorem SK_join {pts pcs A B k J : Nat} {nr nr' rt rt' po ro : Nat → Nat} {sc sc' kf : Nat → Nat → Nat} (h : SK pts nr rt sc po ro kf) (hT : TI pts nr rt sc k) (hL : Lab pts nr po pcs) (g' : Gr nr') (hA : A < 9) (hB : B < 9) (hx : EdX nr nr' A B) (pA : pts.testBit A = true) (pB : pts.testBit B = true) (hn : ¬ cn nr A B) (hJ : ∀ x, J.testBit x = true ↔ cn nr' A x)
    (hsc : ∀ x y, x < 9 → y < 9 → sc' x y = scJ sc A B J x y)
    (hrt : ∀ x, x < 9 → rt' x = if sc A B = 0 then (if J.testBit x = true ∨ 0 < sc A x ∨ 0 < sc B x then min (rt A) (rt B) else rt x) else rt x) :
    SK pts nr' rt' sc' (pw 9 (fun p => pts.testBit p && Nat.beq (po p) (po B)) (fun _ => po A) po) (if kf (po A) (po B) = 0 then pw 9 (isR pcs kf (po A) (po B)) (fun _ => min (ro (po A)) (ro (po B))) ro else ro) (kj (nd pcs (1 <<< (po B))) (kb pcs kf (po A) (po B) (kf (po A) (po B)) 9 0) (po A) (po B) 9) := by
  obtain ⟨h1, h2⟩ := h
  obtain ⟨l1, l2, l3, l4, l5⟩ := hL
  obtain ⟨i1, i2, i3, i4, i5, i6, i7, i8, i9, i10, i11⟩ := hT
  have kAB := h2 A B hA hB pA pB hn
  have hne : po A ≠ po B := fun z => hn ((l5 A B hA hB pA pB).mp z)
  have cA : ∀ p q, p < 9 → (cn nr' p q ↔ cn nr p q ∨ (cn nr p A ∧ cn nr B q) ∨ (cn nr p B ∧ cn nr A q)) := fun p q hp => cn_add i2 g' hA hB hx hp
  have hJ2 : ∀ x, J.testBit x = true ↔ cn nr A x ∨ cn nr B x := fun x => by
    rw [hJ, cA A x hA]
    constructor
    · rintro (r | ⟨-, r⟩ | ⟨r, -⟩)
      · exact Or.inl r
      · exact Or.inr r
      · exact absurd r hn
    · rintro (r | r)
      · exact Or.inl r
      · exact Or.inr (Or.inl ⟨cn_refl nr A, r⟩)
  have inJ : ∀ p, p < 9 → pts.testBit p = true → (J.testBit p = true ↔ po p = po A ∨ po p = po B) := fun p hp a => by
    rw [hJ2, ← l5 A p hA hp pA a, ← l5 B p hB hp pB a]
    constructor
    · rintro (r | r)
      · exact Or.inl r.symm
      · exact Or.inr r.symm
    · rintro (r | r)
      · exact Or.inl r.symm
      · exact Or.inr r.symm
  have vJ : ∀ p, p < 9 → pts.testBit p = true → J.testBit p = true → pw 9 (fun p => pts.testBit p && Nat.beq (po p) (po B)) (fun _ => po A) po p = po A := fun p hp a e => by
    by_cases z : po p = po B
    · exact pw_in hp (by show (pts.testBit p && Nat.beq (po p) (po B)) = true; rw [a, z]; simp)
    · unfold pw
      rw [if_neg (by rintro ⟨-, q⟩; rw [Bool.and_eq_true] at q; exact z (Nat.eq_of_beq_eq_true q.2))]
      rcases (inJ p hp a).mp e with y | y
      · exact y
      · exact absurd y z
  have vN : ∀ p, p < 9 → pts.testBit p = true → ¬ J.testBit p = true → pw 9 (fun p => pts.testBit p && Nat.beq (po p) (po B)) (fun _ => po A) po p = po p ∧ po p ≠ po A ∧ po p ≠ po B ∧ kf (po A) (po p) = sc A p ∧ kf (po B) (po p) = sc B p := fun p hp a e => by
    have n1 : po p ≠ po A := fun z => e ((inJ p hp a).mpr (Or.inl z))
    have n2 : po p ≠ po B := fun z => e ((inJ p hp a).mpr (Or.inr z))
    refine ⟨?_, n1, n2, h2 A p hA hp pA a (fun z => n1 ((l5 A p hA hp pA a).mpr z).symm), h2 B p hB hp pB a (fun z => n2 ((l5 B p hB hp pB a).mpr z).symm)⟩
    unfold pw
    rw [if_neg (by rintro ⟨-, q⟩; rw [Bool.and_eq_true] at q; exact n2 (Nat.eq_of_beq_eq_true q.2))]
  have bl : ∀ t, (nd pcs (1 <<< po B)).testBit t = true ↔ pcs.testBit t = true ∧ t ≠ po B := fun t => by
    rw [nd_bit, sh_bit, Bool.and_eq_true]
    by_cases e : t = po B
    · simp [e]
    · simp [e]
  refine ⟨fun p hp hb => ?_, fun p q hp hq hb1 hb2 hnc => ?_⟩
  · rw [hrt p hp, kAB]
    by_cases m0 : sc A B = 0
    · rw [if_pos m0, if_pos m0]
      by_cases e : J.testBit p = true
      · rw [vJ p hp hb e, if_pos (Or.inl e)]
        rw [pw_in (l2 A hA) (by unfold isR; simp), h1 A hA pA, h1 B hB pB]
      · obtain ⟨v1, v2, v3, v4, v5⟩ := vN p hp hb e
        rw [v1]
        unfold pw
        have hi : isR pcs kf (po A) (po B) (po p) = true ↔ (J.testBit p = true ∨ 0 < sc A p ∨ 0 < sc B p) := by
          unfold isR
          rw [v4, v5, l3 p hp hb]
          simp [v2, v3, e, Nat.blt_eq]
        by_cases z : J.testBit p = true ∨ 0 < sc A p ∨ 0 < sc B p
        · rw [if_pos ⟨l2 p hp, hi.mpr z⟩, if_pos z, h1 A hA pA, h1 B hB pB]
        · rw [if_neg (fun y => z (hi.mp y.2)), if_neg z]
          exact h1 p hp hb
    · rw [if_neg m0, if_neg m0]
      by_cases e : J.testBit p = true
      · rw [vJ p hp hb e, h1 A hA pA]
        -- the two have one root
        have hr : rt A = rt B := i8 A B hA hB (Or.inr (Nat.pos_of_ne_zero m0))
        rcases (hJ2 p).mp e with z | z
        · exact i8 A p hA hp (Or.inl z)
        · rw [hr]; exact i8 B p hB hp (Or.inl z)
      · rw [(vN p hp hb e).1]
        exact h1 p hp hb
  · rw [hsc p q hp hq]
    unfold scJ
    by_cases e1 : J.testBit p = true
    · have e2 : ¬ J.testBit q = true := fun z => hnc (cn_trans (cn_symm g' hA ((hJ p).mp e1)) ((hJ q).mp z))
      rw [if_pos e1, if_neg e2, vJ p hp hb1 e1]
      obtain ⟨v1, v2, v3, v4, v5⟩ := vN q hq hb2 e2
      rw [v1]
      have hc := cJ_iff (pcs := nd pcs (1 <<< po B)) (kf := kb pcs kf (po A) (po B) (kf (po A) (po B)) 9 0) (one := po A) (oth := po B) (q := po q)
      rw [kb_one, kb_oth, v4, v5] at hc
      unfold kj
      by_cases z : sc A q < sc B q
      · rw [if_pos ⟨rfl, l2 q hq, hc.mpr ⟨(bl _).mpr ⟨l3 q hq hb2, v3⟩, v2, z⟩⟩, kb_oth, v5]
        omega
      · rw [if_neg (fun y => z (hc.mp y.2.2).2.2), if_neg (fun y => v2 y.1), kb_one, v4]
        omega
    · obtain ⟨v1, v2, v3, v4, v5⟩ := vN p hp hb1 e1
      rw [if_neg e1, v1]
      by_cases e2 : J.testBit q = true
      · rw [if_pos e2, vJ q hq hb2 e2]
        have hc := cJ_iff (pcs := nd pcs (1 <<< po B)) (kf := kb pcs kf (po A) (po B) (kf (po A) (po B)) 9 0) (one := po A) (oth := po B) (q := po p)
        rw [kb_one, kb_oth, v4, v5] at hc
        unfold kj
        rw [if_neg (fun y => v2 y.1)]
        by_cases z : sc A p < sc B p
        · rw [if_pos ⟨rfl, l2 p hp, hc.mpr ⟨(bl _).mpr ⟨l3 p hp hb1, v3⟩, v2, z⟩⟩, kb_oth, v5]
          omega
        · rw [if_neg (fun y => z (hc.mp y.2.2).2.2)]
          unfold kb
          rw [if_neg (fun q => (bB_iff.mp q.2.1).2.1 rfl), if_neg (fun q => (bA_iff.mp q.1).2.1 rfl)]
          have nc : ¬ cn nr p A := fun y => e1 ((hJ2 p).mpr (Or.inl (cn_symm i2 hp y)))
          rw [h2 p A hp hA hb1 pA nc, i4 p A hp hA]
          omega
      · rw [if_neg e2]
        obtain ⟨w1, w2, w3, w4, w5⟩ := vN q hq hb2 e2
        rw [w1]
        unfold kj
        rw [if_neg (fun y => v2 y.1), if_neg (fun y => w2 y.1)]
        have nc : ¬ cn nr p q := fun y => hnc ((cA p q hp).mpr (Or.inl y))
        have kpq := h2 p q hp hq hb1 hb2 nc
        have a1 := bA_iff (pcs := pcs) (kf := kf) (one := po A) (oth := po B) (c := kf (po A) (po B)) (x := po p)
        have a2 := bB_iff (pcs := pcs) (kf := kf) (one := po A) (oth := po B) (c := kf (po A) (po B)) (x := po p)
        have a3 := bA_iff (pcs := pcs) (kf := kf) (one := po A) (oth := po B) (c := kf (po A) (po B)) (x := po q)
        have a4 := bB_iff (pcs := pcs) (kf := kf) (one := po A) (oth := po B) (c := kf (po A) (po B)) (x := po q)
        have b1 : bA pcs kf (po A) (po B) (kf (po A) (po B)) (po p) = true ↔ sc A B < sc A p := by
          rw [a1, v4, kAB]
          exact ⟨fun y => y.2.2.2, fun y => ⟨l3 p hp hb1, v2, v3, y⟩⟩
        have b2 : bB pcs kf (po A) (po B) (kf (po A) (po B)) (po p) = true ↔ sc A B < sc B p := by
          rw [a2, v5, kAB]
          exact ⟨fun y => y.2.2.2, fun y => ⟨l3 p hp hb1, v2, v3, y⟩⟩
        have b3 : bA pcs kf (po A) (po B) (kf (po A) (po B)) (po q) = true ↔ sc A B < sc A q := by
          rw [a3, w4, kAB]
          exact ⟨fun y => y.2.2.2, fun y => ⟨l3 q hq hb2, w2, w3, y⟩⟩
        have b4 : bB pcs kf (po A) (po B) (kf (po A) (po B)) (po q) = true ↔ sc A B < sc B q := by
          rw [a4, w5, kAB]
          exact ⟨fun y => y.2.2.2, fun y => ⟨l3 q hq hb2, w2, w3, y⟩⟩
        unfold kb fJ
        have p9 := l2 p hp
        have q9 := l2 q hq
        by_cases z1 : sc A B < sc A p ∧ sc A B < sc B q
        · rw [if_pos ⟨b1.mpr z1.1, b4.mpr z1.2, Or.inl p9⟩, if_pos z1, v4, w5]
        · rw [if_neg (fun y => z1 ⟨b1.mp y.1, b4.mp y.2.1⟩), if_neg z1]
          by_cases z2 : sc A B < sc A q ∧ sc A B < sc B p
          · rw [if_pos ⟨b3.mpr z2.1, b2.mpr z2.2, Or.inl q9⟩, if_pos z2, w4, v5]
          · rw [if_neg (fun y => z2 ⟨b3.mp y.1, b2.mp y.2.1⟩), if_neg z2]
            exact kpq
/-! the greatest kin, by numbers and by points -/
theorem mxK_ge {pcs its : Nat} {r : Nat → Nat} : ∀ i q, q < i → pcs.testBit q = true → q ≠ its → r q ≤ mxK pcs r its i
  | 0, q, h, _, _ => absurd h (Nat.not_lt_zero q)
  | i + 1, q, h, h1, h2 => by
    unfold mxK
    by_cases e : q = i
    · subst e
      by_cases z : mxK pcs r its q < r q
      · rw [if_pos ⟨h1, h2, z⟩]; exact Nat.le_refl _
      · rw [if_neg (fun y => z y.2.2)]; omega
    · have ih := mxK_ge (pcs := pcs) (its := its) (r := r) i q (by omega) h1 h2
      split
      · omega
      · exact ih
theorem mxK_pos {pcs its : Nat} {r : Nat → Nat} : ∀ i, 0 < mxK pcs r its i → ∃ q, q < i ∧ pcs.testBit q = true ∧ q ≠ its ∧ r q = mxK pcs r its i
  | 0, h => absurd h (Nat.lt_irrefl 0)
  | i + 1, h => by
    unfold mxK at h ⊢
    by_cases z : pcs.testBit i = true ∧ i ≠ its ∧ mxK pcs r its i < r i
    · rw [if_pos z]
      exact ⟨i, by omega, z.1, z.2.1, rfl⟩
    · rw [if_neg z] at h ⊢
      obtain ⟨q, a, b, c, e⟩ := mxK_pos i h
      exact ⟨q, by omega, b, c, e⟩
theorem mxS_ge {oth : Nat} {r : Nat → Nat} : ∀ i q, q < i → oth.testBit q = true → r q ≤ mxS oth r i
  | 0, q, h, _ => absurd h (Nat.not_lt_zero q)
  | i + 1, q, h, h1 => by
    unfold mxS
    by_cases e : q = i
    · subst e
      rw [if_pos h1]
      omega
    · have ih := mxS_ge (oth := oth) (r := r) i q (by omega) h1
      split
      · omega
      · exact ih
theorem mx_eq {L left A : Nat} {po : Nat → Nat} {sc kf : Nat → Nat → Nat} (hpo : ∀ p, p < 9 → po p < 9) (h1 : ∀ q, q < 9 → left.testBit q = true → L.testBit (po q) = true ∧ po q ≠ po A ∧ kf (po A) (po q) = sc A q) (h2 : ∀ l, L.testBit l = true → l ≠ po A → ∃ q, q < 9 ∧ left.testBit q = true ∧ po q = l) : mxK L (kf (po A)) (po A) 9 = mxS left (sc A) 9 := by
  apply Nat.le_antisymm
  · rcases Nat.eq_zero_or_pos (mxK L (kf (po A)) (po A) 9) with z | z
    · omega
    · obtain ⟨l, -, a, c, e⟩ := mxK_pos 9 z
      obtain ⟨q, q9, ql, qe⟩ := h2 l a c
      subst qe
      rw [← e, (h1 q q9 ql).2.2]
      exact mxS_ge 9 q q9 ql
  · rcases Nat.eq_zero_or_pos (mxS left (sc A) 9) with z | z
    · omega
    · obtain ⟨q, q9, ql, e⟩ := mxS_pos 9 z
      obtain ⟨a, c, e2⟩ := h1 q q9 ql
      rw [← e, ← e2]
      exact mxK_ge 9 (po q) (hpo q q9) a c
end
