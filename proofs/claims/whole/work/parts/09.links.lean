/-! each entry is what decode gives, each link stands in the tables -/
def ilB (i : Instr) (len : Nat) : Bool := match i with
  | .tableswitch _ _ _ _ => true
  | .lookupswitch _ _ => true
  | .bipush _ => Nat.beq len 2
  | .iload _ => Nat.beq len 2
  | .aload _ => Nat.beq len 2
  | .istore _ => Nat.beq len 2
  | .astore _ => Nat.beq len 2
  | .ldc_w _ => Nat.beq len 3
  | .sipush _ => Nat.beq len 3
  | .iinc _ _ => Nat.beq len 3
  | .getfield _ => Nat.beq len 3
  | .putfield _ => Nat.beq len 3
  | .goto _ => Nat.beq len 3
  | .ifCond _ _ => Nat.beq len 3
  | .if_icmp _ _ => Nat.beq len 3
  | .ifnull _ => Nat.beq len 3
  | .ifnonnull _ => Nat.beq len 3
  | .invokestatic _ => Nat.beq len 3
  | .invokevirtual _ => Nat.beq len 3
  | _ => Nat.beq len 1
theorem ilB_ok {i : Instr} {len : Nat} (h : ilB i len = true) : ilOK i len := by
  cases i <;> first | exact trivial | exact Nat.eq_of_beq_eq_true h
def mown (o : Nat) : String := ([RX0, RX1, RX2, RX3, RX4, RX5, RX6, RX7, RX8, "java/lang/Integer", "java/lang/Math", "java/util/Arrays"] : List String).getD o ""

def mLF : List (Nat × Nat × Nat × Nat) := [(0, 9, 0, 0), (0, 15, 0, 1), (0, 18, 0, 2), (0, 22, 0, 3), (1, 9, 1, 0), (1, 15, 1, 1), (1, 18, 1, 2), (1, 21, 1, 3), (2, 9, 2, 0), (2, 21, 2, 1), (2, 25, 2, 2), (3, 9, 3, 0), (3, 15, 3, 1), (4, 15, 4, 0), (4, 22, 4, 1), (5, 12, 5, 0), (5, 21, 5, 1), (5, 28, 5, 2), (6, 9, 6, 0), (6, 15, 6, 1), (7, 10, 7, 0), (7, 19, 7, 1), (7, 23, 7, 2), (7, 31, 7, 3), (7, 35, 7, 4), (7, 41, 7, 5), (7, 45, 7, 6), (7, 90, 5, 0), (7, 113, 5, 2), (7, 192, 5, 1), (8, 7, 8, 1), (8, 13, 8, 3), (8, 17, 8, 4), (8, 20, 8, 6), (8, 23, 8, 9), (8, 26, 8, 10), (8, 29, 8, 12), (8, 32, 8, 13), (8, 35, 8, 14), (8, 38, 8, 15), (8, 41, 8, 17), (8, 44, 8, 19), (8, 47, 8, 20), (8, 64, 8, 8), (8, 71, 8, 11), (8, 74, 8, 16), (8, 134, 8, 2), (8, 137, 8, 18), (8, 153, 8, 5), (8, 159, 8, 21), (8, 191, 8, 7)]
def mLP : List (Nat × Nat × Nat × Nat) := [(0, 18, 0, 2), (0, 22, 0, 3), (2, 21, 2, 1), (2, 25, 2, 2), (3, 15, 3, 1), (4, 22, 4, 1), (6, 15, 6, 1), (8, 50, 8, 0), (8, 64, 8, 8), (8, 71, 8, 11), (8, 74, 8, 16), (8, 134, 8, 2), (8, 137, 8, 18), (8, 153, 8, 5), (8, 159, 8, 21), (8, 191, 8, 7)]
def mLS : List (Nat × Nat × Nat × Nat × Nat) := [(0, 40, 0, 2, 1), (0, 48, 161, 2, 0), (1, 24, 164, 2, 0), (1, 30, 98, 1, 0), (1, 38, 99, 2, 0), (1, 49, 0, 2, 1), (1, 58, 0, 2, 2), (2, 15, 164, 2, 0), (2, 28, 98, 1, 0), (2, 32, 99, 2, 0), (2, 40, 89, 1, 0), (2, 43, 90, 1, 0), (2, 46, 88, 1, 0), (2, 55, 93, 1, 0), (2, 58, 100, 1, 0), (2, 64, 163, 1, 0), (5, 54, 89, 1, 0), (5, 57, 90, 1, 0), (5, 63, 99, 2, 0), (5, 71, 88, 1, 0), (6, 23, 95, 1, 0), (6, 26, 92, 1, 0), (6, 30, 93, 1, 0), (6, 33, 94, 1, 0), (6, 36, 98, 1, 0), (6, 39, 87, 3, 0), (7, 76, 92, 1, 0), (7, 80, 98, 1, 0), (7, 83, 93, 1, 0), (7, 86, 87, 3, 0), (7, 134, 91, 1, 0), (7, 140, 163, 1, 0), (7, 157, 88, 1, 0), (7, 160, 94, 1, 0), (7, 163, 97, 2, 0), (7, 167, 89, 1, 0), (7, 170, 90, 1, 0), (7, 189, 100, 1, 0), (7, 201, 99, 2, 0), (7, 242, 0, 2, 2), (7, 247, 0, 2, 1), (7, 250, 96, 1, 0), (7, 253, 162, 1, 0), (8, 54, 104, 1, 0), (8, 58, 105, 1, 0), (8, 61, 103, 1, 0), (8, 67, 106, 2, 0), (8, 127, 124, 1, 0), (8, 130, 101, 3, 0), (8, 143, 102, 3, 0)]
def mLV : List (Nat × Nat × Nat × Nat × Nat) := [(0, 25, 12, 4, 0), (0, 29, 11, 3, 0), (0, 33, 4, 2, 0), (0, 37, 6, 3, 0), (0, 45, 5, 2, 0), (1, 34, 24, 4, 1), (1, 42, 23, 4, 1), (1, 45, 15, 3, 1), (1, 54, 14, 2, 1), (1, 61, 22, 3, 1), (2, 36, 35, 2, 2), (2, 49, 28, 2, 2), (2, 52, 29, 3, 2), (2, 61, 32, 2, 2), (2, 69, 33, 1, 2), (3, 19, 37, 1, 3), (3, 22, 40, 2, 3), (3, 26, 38, 2, 3), (4, 26, 48, 1, 4), (4, 29, 46, 1, 4), (4, 33, 42, 2, 3), (5, 32, 25, 1, 2), (5, 35, 13, 1, 1), (5, 36, 0, 1, 0), (5, 37, 40, 2, 3), (5, 43, 30, 2, 2), (5, 47, 50, 3, 5), (5, 51, 51, 1, 5), (5, 60, 32, 2, 2), (5, 67, 31, 2, 2), (5, 74, 16, 3, 1), (5, 77, 26, 1, 2), (5, 81, 19, 3, 1), (5, 85, 3, 3, 0), (5, 88, 17, 2, 1), (5, 91, 20, 3, 1), (5, 94, 21, 4, 1), (5, 98, 18, 4, 1), (6, 19, 56, 2, 6), (7, 60, 54, 2, 6), (7, 63, 81, 1, 7), (7, 66, 82, 1, 7), (7, 69, 53, 1, 6), (7, 72, 52, 1, 6), (7, 73, 36, 1, 3), (7, 94, 30, 2, 2), (7, 99, 45, 2, 4), (7, 103, 38, 2, 3), (7, 104, 83, 1, 7), (7, 107, 39, 1, 3), (7, 110, 84, 2, 7), (7, 117, 10, 2, 0), (7, 123, 42, 2, 3), (7, 126, 26, 1, 2), (7, 129, 37, 1, 3), (7, 130, 40, 2, 3), (7, 137, 27, 1, 2), (7, 145, 85, 1, 7), (7, 148, 86, 1, 7), (7, 151, 46, 1, 4), (7, 155, 47, 1, 4), (7, 156, 43, 1, 4), (7, 173, 49, 3, 5), (7, 177, 33, 1, 2), (7, 180, 34, 1, 2), (7, 183, 28, 2, 2), (7, 186, 32, 2, 2), (7, 196, 14, 2, 1), (7, 205, 15, 3, 1), (7, 208, 1, 1, 0), (7, 209, 2, 1, 0), (7, 212, 4, 2, 0), (7, 215, 5, 2, 0), (7, 218, 6, 3, 0), (7, 221, 9, 4, 0), (7, 224, 8, 3, 0), (7, 227, 7, 2, 0), (7, 230, 44, 1, 4), (7, 231, 25, 1, 2), (7, 232, 55, 2, 6), (7, 233, 31, 2, 2), (7, 236, 41, 2, 3), (7, 239, 29, 3, 2), (8, 77, 110, 3, 8), (8, 81, 112, 3, 8), (8, 85, 109, 1, 8), (8, 89, 111, 4, 8), (8, 93, 108, 2, 8), (8, 96, 116, 4, 8), (8, 99, 114, 3, 8), (8, 102, 113, 3, 8), (8, 105, 117, 4, 8), (8, 108, 115, 4, 8), (8, 111, 119, 1, 8), (8, 114, 107, 2, 8), (8, 118, 118, 3, 8), (8, 121, 120, 2, 8), (8, 124, 121, 2, 8), (8, 140, 128, 2, 8), (8, 147, 129, 1, 8), (8, 150, 130, 1, 8), (8, 156, 133, 1, 8), (8, 162, 122, 1, 8), (8, 166, 136, 1, 8), (8, 169, 138, 2, 8), (8, 173, 137, 1, 8), (8, 176, 125, 1, 8), (8, 179, 143, 3, 8), (8, 182, 150, 1, 8), (8, 185, 123, 2, 8), (8, 188, 154, 1, 8), (8, 194, 157, 1, 8)]
def mLC : List (Nat × Nat × Nat) := [(9, 264, 65536), (9, 265, 1431655765), (9, 266, 858993459), (9, 267, 252645135)]
def lkB (o : Nat) (pc : Nat) (e : mE) : Bool := match e.1 with
  | .getfield idx => decide ((o, idx, e.2.2.1, e.2.2.2.1) ∈ mLF)
  | .putfield idx => decide ((o, idx, e.2.2.1, e.2.2.2.1) ∈ mLP)
  | .invokestatic idx => decide ((o, idx, e.2.2.1, e.2.2.2.1, e.2.2.2.2) ∈ mLS)
  | .invokevirtual idx => decide ((o, idx, e.2.2.1, e.2.2.2.1, e.2.2.2.2) ∈ mLV)
  | .ldc_w idx => decide ((o, idx, e.2.2.1) ∈ mLC)
  | .goto f => decide ((pc : Int) + f = (e.2.2.1 : Int))
  | .ifCond _ f => decide ((pc : Int) + f = (e.2.2.1 : Int))
  | .if_icmp _ f => decide ((pc : Int) + f = (e.2.2.1 : Int))
  | .ifnull f => decide ((pc : Int) + f = (e.2.2.1 : Int))
  | .ifnonnull f => decide ((pc : Int) + f = (e.2.2.1 : Int))
  | .tableswitch d lo hi offs => decide (0 ≤ (pc : Int) + d ∧ hi - lo + 1 = (offs.size : Int) ∧ ∀ f ∈ offs.toList, 0 ≤ (pc : Int) + f)
  | .lookupswitch d ps => decide (0 ≤ (pc : Int) + d ∧ (ps.toList.zip (ps.toList.drop 1)).all (fun (a, next) => a.1 < next.1) = true ∧ ∀ q ∈ ps.toList, 0 ≤ (pc : Int) + q.2)
  | _ => true
def chkB (b : ByteArray) (o : Nat) (q : Nat × mE) : Bool := (match decode b q.1 with
  | .ok (i, len) => decide (i = q.2.1) && Nat.beq q.2.2.1 (q.1 + len) && ilB i len
  | .error _ => false) && lkB o q.1 q.2
set_option maxRecDepth 20000 in
theorem mLF_ok_0 : FOK (mown 0) 9 0 0 := ⟨RX0, TX0, 4, rfl, by decide, Or.inl (Tb_at 163 rfl rfl)⟩
set_option maxRecDepth 20000 in
theorem mLF_ok_1 : FOK (mown 0) 15 0 1 := ⟨RX0, TX0, 4, rfl, by decide, Or.inl (Tb_at 164 rfl rfl)⟩
set_option maxRecDepth 20000 in
theorem mLF_ok_2 : FOK (mown 0) 18 0 2 := ⟨RX0, TX0, 4, rfl, by decide, Or.inl (Tb_at 165 rfl rfl)⟩
set_option maxRecDepth 20000 in
theorem mLF_ok_3 : FOK (mown 0) 22 0 3 := ⟨RX0, TX0, 4, rfl, by decide, Or.inl (Tb_at 166 rfl rfl)⟩
set_option maxRecDepth 20000 in
theorem mLF_ok_4 : FOK (mown 1) 9 1 0 := ⟨RX1, TX1, 4, rfl, by decide, Or.inl (Tb_at 144 rfl rfl)⟩
set_option maxRecDepth 20000 in
theorem mLF_ok_5 : FOK (mown 1) 15 1 1 := ⟨RX1, TX1, 4, rfl, by decide, Or.inl (Tb_at 145 rfl rfl)⟩
set_option maxRecDepth 20000 in
theorem mLF_ok_6 : FOK (mown 1) 18 1 2 := ⟨RX1, TX1, 4, rfl, by decide, Or.inl (Tb_at 146 rfl rfl)⟩
set_option maxRecDepth 20000 in
theorem mLF_ok_7 : FOK (mown 1) 21 1 3 := ⟨RX1, TX1, 4, rfl, by decide, Or.inl (Tb_at 147 rfl rfl)⟩
set_option maxRecDepth 20000 in
theorem mLF_ok_8 : FOK (mown 2) 9 2 0 := ⟨RX2, TX2, 3, rfl, by decide, Or.inl (Tb_at 128 rfl rfl)⟩
set_option maxRecDepth 20000 in
theorem mLF_ok_9 : FOK (mown 2) 21 2 1 := ⟨RX2, TX2, 3, rfl, by decide, Or.inl (Tb_at 129 rfl rfl)⟩
set_option maxRecDepth 20000 in
theorem mLF_ok_10 : FOK (mown 2) 25 2 2 := ⟨RX2, TX2, 3, rfl, by decide, Or.inl (Tb_at 130 rfl rfl)⟩
set_option maxRecDepth 20000 in
theorem mLF_ok_11 : FOK (mown 3) 9 3 0 := ⟨RX3, TX3, 2, rfl, by decide, Or.inl (Tb_at 90 rfl rfl)⟩
set_option maxRecDepth 20000 in
theorem mLF_ok_12 : FOK (mown 3) 15 3 1 := ⟨RX3, TX3, 2, rfl, by decide, Or.inl (Tb_at 91 rfl rfl)⟩
set_option maxRecDepth 20000 in
theorem mLF_ok_13 : FOK (mown 4) 15 4 0 := ⟨RX4, TX4, 2, rfl, by decide, Or.inl (Tb_at 109 rfl rfl)⟩
set_option maxRecDepth 20000 in
theorem mLF_ok_14 : FOK (mown 4) 22 4 1 := ⟨RX4, TX4, 2, rfl, by decide, Or.inl (Tb_at 110 rfl rfl)⟩
set_option maxRecDepth 20000 in
theorem mLF_ok_15 : FOK (mown 5) 12 5 0 := ⟨RX5, TX5, 3, rfl, by decide, Or.inl (Tb_at 176 rfl rfl)⟩
set_option maxRecDepth 20000 in
theorem mLF_ok_16 : FOK (mown 5) 21 5 1 := ⟨RX5, TX5, 3, rfl, by decide, Or.inl (Tb_at 178 rfl rfl)⟩
set_option maxRecDepth 20000 in
theorem mLF_ok_17 : FOK (mown 5) 28 5 2 := ⟨RX5, TX5, 3, rfl, by decide, Or.inl (Tb_at 180 rfl rfl)⟩
set_option maxRecDepth 20000 in
theorem mLF_ok_18 : FOK (mown 6) 9 6 0 := ⟨RX6, TX6, 2, rfl, by decide, Or.inl (Tb_at 76 rfl rfl)⟩
set_option maxRecDepth 20000 in
theorem mLF_ok_19 : FOK (mown 6) 15 6 1 := ⟨RX6, TX6, 2, rfl, by decide, Or.inl (Tb_at 77 rfl rfl)⟩
set_option maxRecDepth 20000 in
theorem mLF_ok_20 : FOK (mown 7) 10 7 0 := ⟨RX7, TX7, 7, rfl, by decide, Or.inl (Tb_at 473 rfl rfl)⟩
set_option maxRecDepth 20000 in
theorem mLF_ok_21 : FOK (mown 7) 19 7 1 := ⟨RX7, TX7, 7, rfl, by decide, Or.inl (Tb_at 474 rfl rfl)⟩
set_option maxRecDepth 20000 in
theorem mLF_ok_22 : FOK (mown 7) 23 7 2 := ⟨RX7, TX7, 7, rfl, by decide, Or.inl (Tb_at 475 rfl rfl)⟩
set_option maxRecDepth 20000 in
theorem mLF_ok_23 : FOK (mown 7) 31 7 3 := ⟨RX7, TX7, 7, rfl, by decide, Or.inl (Tb_at 476 rfl rfl)⟩
set_option maxRecDepth 20000 in
theorem mLF_ok_24 : FOK (mown 7) 35 7 4 := ⟨RX7, TX7, 7, rfl, by decide, Or.inl (Tb_at 477 rfl rfl)⟩
set_option maxRecDepth 20000 in
theorem mLF_ok_25 : FOK (mown 7) 41 7 5 := ⟨RX7, TX7, 7, rfl, by decide, Or.inl (Tb_at 478 rfl rfl)⟩
set_option maxRecDepth 20000 in
theorem mLF_ok_26 : FOK (mown 7) 45 7 6 := ⟨RX7, TX7, 7, rfl, by decide, Or.inl (Tb_at 479 rfl rfl)⟩
set_option maxRecDepth 20000 in
theorem mLF_ok_27 : FOK (mown 7) 90 5 0 := ⟨RX5, TX5, 3, rfl, by decide, Or.inr ⟨"ZigzagPieces", Nb_at 177 rfl rfl⟩⟩
set_option maxRecDepth 20000 in
theorem mLF_ok_28 : FOK (mown 7) 113 5 2 := ⟨RX5, TX5, 3, rfl, by decide, Or.inr ⟨"ZigzagPieces", Nb_at 181 rfl rfl⟩⟩
set_option maxRecDepth 20000 in
theorem mLF_ok_29 : FOK (mown 7) 192 5 1 := ⟨RX5, TX5, 3, rfl, by decide, Or.inr ⟨"ZigzagPieces", Nb_at 179 rfl rfl⟩⟩
set_option maxRecDepth 20000 in
theorem mLF_ok_30 : FOK (mown 8) 7 8 1 := ⟨RX8, TX8, 22, rfl, by decide, Or.inl (Tb_at 721 rfl rfl)⟩
set_option maxRecDepth 20000 in
theorem mLF_ok_31 : FOK (mown 8) 13 8 3 := ⟨RX8, TX8, 22, rfl, by decide, Or.inl (Tb_at 723 rfl rfl)⟩
set_option maxRecDepth 20000 in
theorem mLF_ok_32 : FOK (mown 8) 17 8 4 := ⟨RX8, TX8, 22, rfl, by decide, Or.inl (Tb_at 724 rfl rfl)⟩
set_option maxRecDepth 20000 in
theorem mLF_ok_33 : FOK (mown 8) 20 8 6 := ⟨RX8, TX8, 22, rfl, by decide, Or.inl (Tb_at 726 rfl rfl)⟩
set_option maxRecDepth 20000 in
theorem mLF_ok_34 : FOK (mown 8) 23 8 9 := ⟨RX8, TX8, 22, rfl, by decide, Or.inl (Tb_at 729 rfl rfl)⟩
set_option maxRecDepth 20000 in
theorem mLF_ok_35 : FOK (mown 8) 26 8 10 := ⟨RX8, TX8, 22, rfl, by decide, Or.inl (Tb_at 730 rfl rfl)⟩
set_option maxRecDepth 20000 in
theorem mLF_ok_36 : FOK (mown 8) 29 8 12 := ⟨RX8, TX8, 22, rfl, by decide, Or.inl (Tb_at 732 rfl rfl)⟩
set_option maxRecDepth 20000 in
theorem mLF_ok_37 : FOK (mown 8) 32 8 13 := ⟨RX8, TX8, 22, rfl, by decide, Or.inl (Tb_at 733 rfl rfl)⟩
set_option maxRecDepth 20000 in
theorem mLF_ok_38 : FOK (mown 8) 35 8 14 := ⟨RX8, TX8, 22, rfl, by decide, Or.inl (Tb_at 734 rfl rfl)⟩
set_option maxRecDepth 20000 in
theorem mLF_ok_39 : FOK (mown 8) 38 8 15 := ⟨RX8, TX8, 22, rfl, by decide, Or.inl (Tb_at 735 rfl rfl)⟩
set_option maxRecDepth 20000 in
theorem mLF_ok_40 : FOK (mown 8) 41 8 17 := ⟨RX8, TX8, 22, rfl, by decide, Or.inl (Tb_at 737 rfl rfl)⟩
set_option maxRecDepth 20000 in
theorem mLF_ok_41 : FOK (mown 8) 44 8 19 := ⟨RX8, TX8, 22, rfl, by decide, Or.inl (Tb_at 739 rfl rfl)⟩
set_option maxRecDepth 20000 in
theorem mLF_ok_42 : FOK (mown 8) 47 8 20 := ⟨RX8, TX8, 22, rfl, by decide, Or.inl (Tb_at 740 rfl rfl)⟩
set_option maxRecDepth 20000 in
theorem mLF_ok_43 : FOK (mown 8) 64 8 8 := ⟨RX8, TX8, 22, rfl, by decide, Or.inl (Tb_at 728 rfl rfl)⟩
set_option maxRecDepth 20000 in
theorem mLF_ok_44 : FOK (mown 8) 71 8 11 := ⟨RX8, TX8, 22, rfl, by decide, Or.inl (Tb_at 731 rfl rfl)⟩
set_option maxRecDepth 20000 in
theorem mLF_ok_45 : FOK (mown 8) 74 8 16 := ⟨RX8, TX8, 22, rfl, by decide, Or.inl (Tb_at 736 rfl rfl)⟩
set_option maxRecDepth 20000 in
theorem mLF_ok_46 : FOK (mown 8) 134 8 2 := ⟨RX8, TX8, 22, rfl, by decide, Or.inl (Tb_at 722 rfl rfl)⟩
set_option maxRecDepth 20000 in
theorem mLF_ok_47 : FOK (mown 8) 137 8 18 := ⟨RX8, TX8, 22, rfl, by decide, Or.inl (Tb_at 738 rfl rfl)⟩
set_option maxRecDepth 20000 in
theorem mLF_ok_48 : FOK (mown 8) 153 8 5 := ⟨RX8, TX8, 22, rfl, by decide, Or.inl (Tb_at 725 rfl rfl)⟩
set_option maxRecDepth 20000 in
theorem mLF_ok_49 : FOK (mown 8) 159 8 21 := ⟨RX8, TX8, 22, rfl, by decide, Or.inl (Tb_at 741 rfl rfl)⟩
set_option maxRecDepth 20000 in
theorem mLF_ok_50 : FOK (mown 8) 191 8 7 := ⟨RX8, TX8, 22, rfl, by decide, Or.inl (Tb_at 727 rfl rfl)⟩
theorem mLF_ok : ∀ q ∈ mLF, FOK (mown q.1) q.2.1 q.2.2.1 q.2.2.2 := List.forall_mem_cons.mpr ⟨mLF_ok_0, List.forall_mem_cons.mpr ⟨mLF_ok_1, List.forall_mem_cons.mpr ⟨mLF_ok_2, List.forall_mem_cons.mpr ⟨mLF_ok_3, List.forall_mem_cons.mpr ⟨mLF_ok_4, List.forall_mem_cons.mpr ⟨mLF_ok_5, List.forall_mem_cons.mpr ⟨mLF_ok_6, List.forall_mem_cons.mpr ⟨mLF_ok_7, List.forall_mem_cons.mpr ⟨mLF_ok_8, List.forall_mem_cons.mpr ⟨mLF_ok_9, List.forall_mem_cons.mpr ⟨mLF_ok_10, List.forall_mem_cons.mpr ⟨mLF_ok_11, List.forall_mem_cons.mpr ⟨mLF_ok_12, List.forall_mem_cons.mpr ⟨mLF_ok_13, List.forall_mem_cons.mpr ⟨mLF_ok_14, List.forall_mem_cons.mpr ⟨mLF_ok_15, List.forall_mem_cons.mpr ⟨mLF_ok_16, List.forall_mem_cons.mpr ⟨mLF_ok_17, List.forall_mem_cons.mpr ⟨mLF_ok_18, List.forall_mem_cons.mpr ⟨mLF_ok_19, List.forall_mem_cons.mpr ⟨mLF_ok_20, List.forall_mem_cons.mpr ⟨mLF_ok_21, List.forall_mem_cons.mpr ⟨mLF_ok_22, List.forall_mem_cons.mpr ⟨mLF_ok_23, List.forall_mem_cons.mpr ⟨mLF_ok_24, List.forall_mem_cons.mpr ⟨mLF_ok_25, List.forall_mem_cons.mpr ⟨mLF_ok_26, List.forall_mem_cons.mpr ⟨mLF_ok_27, List.forall_mem_cons.mpr ⟨mLF_ok_28, List.forall_mem_cons.mpr ⟨mLF_ok_29, List.forall_mem_cons.mpr ⟨mLF_ok_30, List.forall_mem_cons.mpr ⟨mLF_ok_31, List.forall_mem_cons.mpr ⟨mLF_ok_32, List.forall_mem_cons.mpr ⟨mLF_ok_33, List.forall_mem_cons.mpr ⟨mLF_ok_34, List.forall_mem_cons.mpr ⟨mLF_ok_35, List.forall_mem_cons.mpr ⟨mLF_ok_36, List.forall_mem_cons.mpr ⟨mLF_ok_37, List.forall_mem_cons.mpr ⟨mLF_ok_38, List.forall_mem_cons.mpr ⟨mLF_ok_39, List.forall_mem_cons.mpr ⟨mLF_ok_40, List.forall_mem_cons.mpr ⟨mLF_ok_41, List.forall_mem_cons.mpr ⟨mLF_ok_42, List.forall_mem_cons.mpr ⟨mLF_ok_43, List.forall_mem_cons.mpr ⟨mLF_ok_44, List.forall_mem_cons.mpr ⟨mLF_ok_45, List.forall_mem_cons.mpr ⟨mLF_ok_46, List.forall_mem_cons.mpr ⟨mLF_ok_47, List.forall_mem_cons.mpr ⟨mLF_ok_48, List.forall_mem_cons.mpr ⟨mLF_ok_49, List.forall_mem_cons.mpr ⟨mLF_ok_50, fun _ h => absurd h List.not_mem_nil⟩⟩⟩⟩⟩⟩⟩⟩⟩⟩⟩⟩⟩⟩⟩⟩⟩⟩⟩⟩⟩⟩⟩⟩⟩⟩⟩⟩⟩⟩⟩⟩⟩⟩⟩⟩⟩⟩⟩⟩⟩⟩⟩⟩⟩⟩⟩⟩⟩⟩⟩
set_option maxRecDepth 20000 in
theorem mLP_ok_0 : FPK (mown 0) 18 0 2 := ⟨RX0, TX0, 4, rfl, by decide, Tb_at 165 rfl rfl, rfl, by decide +kernel⟩
set_option maxRecDepth 20000 in
theorem mLP_ok_1 : FPK (mown 0) 22 0 3 := ⟨RX0, TX0, 4, rfl, by decide, Tb_at 166 rfl rfl, rfl, by decide +kernel⟩
set_option maxRecDepth 20000 in
theorem mLP_ok_2 : FPK (mown 2) 21 2 1 := ⟨RX2, TX2, 3, rfl, by decide, Tb_at 129 rfl rfl, rfl, by decide +kernel⟩
set_option maxRecDepth 20000 in
theorem mLP_ok_3 : FPK (mown 2) 25 2 2 := ⟨RX2, TX2, 3, rfl, by decide, Tb_at 130 rfl rfl, rfl, by decide +kernel⟩
set_option maxRecDepth 20000 in
theorem mLP_ok_4 : FPK (mown 3) 15 3 1 := ⟨RX3, TX3, 2, rfl, by decide, Tb_at 91 rfl rfl, rfl, by decide +kernel⟩
set_option maxRecDepth 20000 in
theorem mLP_ok_5 : FPK (mown 4) 22 4 1 := ⟨RX4, TX4, 2, rfl, by decide, Tb_at 110 rfl rfl, rfl, by decide +kernel⟩
set_option maxRecDepth 20000 in
theorem mLP_ok_6 : FPK (mown 6) 15 6 1 := ⟨RX6, TX6, 2, rfl, by decide, Tb_at 77 rfl rfl, rfl, by decide +kernel⟩
set_option maxRecDepth 20000 in
theorem mLP_ok_7 : FPK (mown 8) 50 8 0 := ⟨RX8, TX8, 22, rfl, by decide, Tb_at 720 rfl rfl, rfl, by decide +kernel⟩
set_option maxRecDepth 20000 in
theorem mLP_ok_8 : FPK (mown 8) 64 8 8 := ⟨RX8, TX8, 22, rfl, by decide, Tb_at 728 rfl rfl, rfl, by decide +kernel⟩
set_option maxRecDepth 20000 in
theorem mLP_ok_9 : FPK (mown 8) 71 8 11 := ⟨RX8, TX8, 22, rfl, by decide, Tb_at 731 rfl rfl, rfl, by decide +kernel⟩
set_option maxRecDepth 20000 in
theorem mLP_ok_10 : FPK (mown 8) 74 8 16 := ⟨RX8, TX8, 22, rfl, by decide, Tb_at 736 rfl rfl, rfl, by decide +kernel⟩
set_option maxRecDepth 20000 in
theorem mLP_ok_11 : FPK (mown 8) 134 8 2 := ⟨RX8, TX8, 22, rfl, by decide, Tb_at 722 rfl rfl, rfl, by decide +kernel⟩
set_option maxRecDepth 20000 in
theorem mLP_ok_12 : FPK (mown 8) 137 8 18 := ⟨RX8, TX8, 22, rfl, by decide, Tb_at 738 rfl rfl, rfl, by decide +kernel⟩
set_option maxRecDepth 20000 in
theorem mLP_ok_13 : FPK (mown 8) 153 8 5 := ⟨RX8, TX8, 22, rfl, by decide, Tb_at 725 rfl rfl, rfl, by decide +kernel⟩
set_option maxRecDepth 20000 in
theorem mLP_ok_14 : FPK (mown 8) 159 8 21 := ⟨RX8, TX8, 22, rfl, by decide, Tb_at 741 rfl rfl, rfl, by decide +kernel⟩
set_option maxRecDepth 20000 in
theorem mLP_ok_15 : FPK (mown 8) 191 8 7 := ⟨RX8, TX8, 22, rfl, by decide, Tb_at 727 rfl rfl, rfl, by decide +kernel⟩
theorem mLP_ok : ∀ q ∈ mLP, FPK (mown q.1) q.2.1 q.2.2.1 q.2.2.2 := List.forall_mem_cons.mpr ⟨mLP_ok_0, List.forall_mem_cons.mpr ⟨mLP_ok_1, List.forall_mem_cons.mpr ⟨mLP_ok_2, List.forall_mem_cons.mpr ⟨mLP_ok_3, List.forall_mem_cons.mpr ⟨mLP_ok_4, List.forall_mem_cons.mpr ⟨mLP_ok_5, List.forall_mem_cons.mpr ⟨mLP_ok_6, List.forall_mem_cons.mpr ⟨mLP_ok_7, List.forall_mem_cons.mpr ⟨mLP_ok_8, List.forall_mem_cons.mpr ⟨mLP_ok_9, List.forall_mem_cons.mpr ⟨mLP_ok_10, List.forall_mem_cons.mpr ⟨mLP_ok_11, List.forall_mem_cons.mpr ⟨mLP_ok_12, List.forall_mem_cons.mpr ⟨mLP_ok_13, List.forall_mem_cons.mpr ⟨mLP_ok_14, List.forall_mem_cons.mpr ⟨mLP_ok_15, fun _ h => absurd h List.not_mem_nil⟩⟩⟩⟩⟩⟩⟩⟩⟩⟩⟩⟩⟩⟩⟩⟩
set_option maxRecDepth 20000 in
theorem mLS_ok_0 : TOK mprog (mown 0) 40 0 2 1 := ⟨Tb_at 697 rfl rfl, Tb_at 104 rfl rfl, Tb_at 50 rfl rfl, Tb_at 105 rfl rfl⟩
set_option maxRecDepth 20000 in
theorem mLS_ok_1 : TOK mprog (mown 0) 48 161 2 0 := ⟨⟨"java/lang/Integer", "compare", "(II)I"⟩, prog_11_method_40_code, 2, (some .int), k_Int_compare, rfl, by decide +kernel, Tb_at 430 rfl rfl, Or.inl (Tb_at 429 rfl rfl)⟩
set_option maxRecDepth 20000 in
theorem mLS_ok_2 : TOK mprog (mown 1) 24 164 2 0 := ⟨⟨"java/util/Arrays", "fill", "([II)V"⟩, prog_16_method_103_code, 4, none, k_Arr_fill, rfl, by decide +kernel, Tb_at 251 rfl rfl, Or.inl (Tb_at 367 rfl rfl)⟩
set_option maxRecDepth 20000 in
theorem mLS_ok_3 : TOK mprog (mown 1) 30 98 1 0 := ⟨⟨"ZigzagPieces", "isPoint", "(I)Z"⟩, prog_1_method_43_code, 1, (some .boolean), k_Z_isPoint, rfl, by decide +kernel, Tb_at 283 rfl rfl, Or.inr ⟨"ZigzagPieces", Nb_at 398 rfl rfl⟩⟩
set_option maxRecDepth 20000 in
theorem mLS_ok_4 : TOK mprog (mown 1) 38 99 2 0 := ⟨⟨"ZigzagPieces", "isIn", "(II)Z"⟩, prog_1_method_44_code, 2, (some .boolean), k_Z_isIn, rfl, by decide +kernel, Tb_at 315 rfl rfl, Or.inr ⟨"ZigzagPieces", Nb_at 407 rfl rfl⟩⟩
set_option maxRecDepth 20000 in
theorem mLS_ok_5 : TOK mprog (mown 1) 49 0 2 1 := ⟨Tb_at 412 rfl rfl, Tb_at 104 rfl rfl, Tb_at 50 rfl rfl, Tb_at 105 rfl rfl⟩
set_option maxRecDepth 20000 in
theorem mLS_ok_6 : TOK mprog (mown 1) 58 0 2 2 := ⟨Tb_at 452 rfl rfl, Tb_at 289 rfl rfl, Tb_at 50 rfl rfl, Tb_at 290 rfl rfl⟩
set_option maxRecDepth 20000 in
theorem mLS_ok_7 : TOK mprog (mown 2) 15 164 2 0 := ⟨⟨"java/util/Arrays", "fill", "([II)V"⟩, prog_16_method_103_code, 4, none, k_Arr_fill, rfl, by decide +kernel, Tb_at 251 rfl rfl, Or.inl (Tb_at 250 rfl rfl)⟩
set_option maxRecDepth 20000 in
theorem mLS_ok_8 : TOK mprog (mown 2) 28 98 1 0 := ⟨⟨"ZigzagPieces", "isPoint", "(I)Z"⟩, prog_1_method_43_code, 1, (some .boolean), k_Z_isPoint, rfl, by decide +kernel, Tb_at 283 rfl rfl, Or.inr ⟨"ZigzagPieces", Nb_at 306 rfl rfl⟩⟩
set_option maxRecDepth 20000 in
theorem mLS_ok_9 : TOK mprog (mown 2) 32 99 2 0 := ⟨⟨"ZigzagPieces", "isIn", "(II)Z"⟩, prog_1_method_44_code, 2, (some .boolean), k_Z_isIn, rfl, by decide +kernel, Tb_at 315 rfl rfl, Or.inr ⟨"ZigzagPieces", Nb_at 314 rfl rfl⟩⟩
set_option maxRecDepth 20000 in
theorem mLS_ok_10 : TOK mprog (mown 2) 40 89 1 0 := ⟨⟨"ZigzagPieces", "lowOf", "(I)I"⟩, prog_1_method_34_code, 1, (some .int), k_Z_lowOf, rfl, by decide +kernel, Tb_at 301 rfl rfl, Or.inr ⟨"ZigzagPieces", Nb_at 300 rfl rfl⟩⟩
set_option maxRecDepth 20000 in
theorem mLS_ok_11 : TOK mprog (mown 2) 43 90 1 0 := ⟨⟨"ZigzagPieces", "highOf", "(I)I"⟩, prog_1_method_35_code, 1, (some .int), k_Z_highOf, rfl, by decide +kernel, Tb_at 304 rfl rfl, Or.inr ⟨"ZigzagPieces", Nb_at 303 rfl rfl⟩⟩
set_option maxRecDepth 20000 in
theorem mLS_ok_12 : TOK mprog (mown 2) 46 88 1 0 := ⟨⟨"ZigzagPieces", "kindOf", "(I)I"⟩, prog_1_method_33_code, 1, (some .int), k_Z_kindOf, rfl, by decide +kernel, Tb_at 308 rfl rfl, Or.inr ⟨"ZigzagPieces", Nb_at 307 rfl rfl⟩⟩
set_option maxRecDepth 20000 in
theorem mLS_ok_13 : TOK mprog (mown 2) 55 93 1 0 := ⟨⟨"ZigzagPieces", "isOfEdge", "(I)Z"⟩, prog_1_method_38_code, 1, (some .boolean), k_Z_isOfEdge, rfl, by decide +kernel, Tb_at 276 rfl rfl, Or.inr ⟨"ZigzagPieces", Nb_at 329 rfl rfl⟩⟩
set_option maxRecDepth 20000 in
theorem mLS_ok_14 : TOK mprog (mown 2) 58 100 1 0 := ⟨⟨"ZigzagPieces", "lowestOf", "(I)I"⟩, prog_1_method_45_code, 1, (some .int), k_Z_lowestOf, rfl, by decide +kernel, Tb_at 385 rfl rfl, Or.inr ⟨"ZigzagPieces", Nb_at 384 rfl rfl⟩⟩
set_option maxRecDepth 20000 in
theorem mLS_ok_15 : TOK mprog (mown 2) 64 163 1 0 := ⟨⟨"java/lang/Integer", "bitCount", "(I)I"⟩, prog_11_method_49_code, 1, (some .int), k_Int_bitCount, rfl, by decide +kernel, Tb_at 576 rfl rfl, Or.inl (Tb_at 631 rfl rfl)⟩
set_option maxRecDepth 20000 in
theorem mLS_ok_16 : TOK mprog (mown 5) 54 89 1 0 := ⟨⟨"ZigzagPieces", "lowOf", "(I)I"⟩, prog_1_method_34_code, 1, (some .int), k_Z_lowOf, rfl, by decide +kernel, Tb_at 301 rfl rfl, Or.inr ⟨"ZigzagPieces", Nb_at 378 rfl rfl⟩⟩
set_option maxRecDepth 20000 in
theorem mLS_ok_17 : TOK mprog (mown 5) 57 90 1 0 := ⟨⟨"ZigzagPieces", "highOf", "(I)I"⟩, prog_1_method_35_code, 1, (some .int), k_Z_highOf, rfl, by decide +kernel, Tb_at 304 rfl rfl, Or.inr ⟨"ZigzagPieces", Nb_at 379 rfl rfl⟩⟩
set_option maxRecDepth 20000 in
theorem mLS_ok_18 : TOK mprog (mown 5) 63 99 2 0 := ⟨⟨"ZigzagPieces", "isIn", "(II)Z"⟩, prog_1_method_44_code, 2, (some .boolean), k_Z_isIn, rfl, by decide +kernel, Tb_at 315 rfl rfl, Or.inr ⟨"ZigzagPieces", Nb_at 391 rfl rfl⟩⟩
set_option maxRecDepth 20000 in
theorem mLS_ok_19 : TOK mprog (mown 5) 71 88 1 0 := ⟨⟨"ZigzagPieces", "kindOf", "(I)I"⟩, prog_1_method_33_code, 1, (some .int), k_Z_kindOf, rfl, by decide +kernel, Tb_at 308 rfl rfl, Or.inr ⟨"ZigzagPieces", Nb_at 393 rfl rfl⟩⟩
set_option maxRecDepth 20000 in
theorem mLS_ok_20 : TOK mprog (mown 6) 23 95 1 0 := ⟨⟨"ZigzagPieces", "kindOfLetter", "(I)I"⟩, prog_1_method_40_code, 1, (some .int), k_Z_kindOfLetter, rfl, by decide +kernel, Tb_at 270 rfl rfl, Or.inr ⟨"ZigzagPieces", Nb_at 269 rfl rfl⟩⟩
set_option maxRecDepth 20000 in
theorem mLS_ok_21 : TOK mprog (mown 6) 26 92 1 0 := ⟨⟨"ZigzagPieces", "isKind", "(I)Z"⟩, prog_1_method_37_code, 1, (some .boolean), k_Z_isKind, rfl, by decide +kernel, Tb_at 273 rfl rfl, Or.inr ⟨"ZigzagPieces", Nb_at 272 rfl rfl⟩⟩
set_option maxRecDepth 20000 in
theorem mLS_ok_22 : TOK mprog (mown 6) 30 93 1 0 := ⟨⟨"ZigzagPieces", "isOfEdge", "(I)Z"⟩, prog_1_method_38_code, 1, (some .boolean), k_Z_isOfEdge, rfl, by decide +kernel, Tb_at 276 rfl rfl, Or.inr ⟨"ZigzagPieces", Nb_at 275 rfl rfl⟩⟩
set_option maxRecDepth 20000 in
theorem mLS_ok_23 : TOK mprog (mown 6) 33 94 1 0 := ⟨⟨"ZigzagPieces", "itemLength", "(I)I"⟩, prog_1_method_39_code, 1, (some .int), k_Z_itemLength, rfl, by decide +kernel, Tb_at 279 rfl rfl, Or.inr ⟨"ZigzagPieces", Nb_at 278 rfl rfl⟩⟩
set_option maxRecDepth 20000 in
theorem mLS_ok_24 : TOK mprog (mown 6) 36 98 1 0 := ⟨⟨"ZigzagPieces", "isPoint", "(I)Z"⟩, prog_1_method_43_code, 1, (some .boolean), k_Z_isPoint, rfl, by decide +kernel, Tb_at 283 rfl rfl, Or.inr ⟨"ZigzagPieces", Nb_at 282 rfl rfl⟩⟩
set_option maxRecDepth 20000 in
theorem mLS_ok_25 : TOK mprog (mown 6) 39 87 3 0 := ⟨⟨"ZigzagPieces", "actOf", "(III)I"⟩, prog_1_method_32_code, 4, (some .int), k_Z_actOf, rfl, by decide +kernel, Tb_at 286 rfl rfl, Or.inr ⟨"ZigzagPieces", Nb_at 285 rfl rfl⟩⟩
set_option maxRecDepth 20000 in
theorem mLS_ok_26 : TOK mprog (mown 7) 76 92 1 0 := ⟨⟨"ZigzagPieces", "isKind", "(I)Z"⟩, prog_1_method_37_code, 1, (some .boolean), k_Z_isKind, rfl, by decide +kernel, Tb_at 273 rfl rfl, Or.inl (Tb_at 516 rfl rfl)⟩
set_option maxRecDepth 20000 in
theorem mLS_ok_27 : TOK mprog (mown 7) 80 98 1 0 := ⟨⟨"ZigzagPieces", "isPoint", "(I)Z"⟩, prog_1_method_43_code, 1, (some .boolean), k_Z_isPoint, rfl, by decide +kernel, Tb_at 283 rfl rfl, Or.inl (Tb_at 517 rfl rfl)⟩
set_option maxRecDepth 20000 in
theorem mLS_ok_28 : TOK mprog (mown 7) 83 93 1 0 := ⟨⟨"ZigzagPieces", "isOfEdge", "(I)Z"⟩, prog_1_method_38_code, 1, (some .boolean), k_Z_isOfEdge, rfl, by decide +kernel, Tb_at 276 rfl rfl, Or.inl (Tb_at 281 rfl rfl)⟩
set_option maxRecDepth 20000 in
theorem mLS_ok_29 : TOK mprog (mown 7) 86 87 3 0 := ⟨⟨"ZigzagPieces", "actOf", "(III)I"⟩, prog_1_method_32_code, 4, (some .int), k_Z_actOf, rfl, by decide +kernel, Tb_at 286 rfl rfl, Or.inl (Tb_at 518 rfl rfl)⟩
set_option maxRecDepth 20000 in
theorem mLS_ok_30 : TOK mprog (mown 7) 134 91 1 0 := ⟨⟨"ZigzagPieces", "otherWay", "(I)I"⟩, prog_1_method_36_code, 1, (some .int), k_Z_otherWay, rfl, by decide +kernel, Tb_at 563 rfl rfl, Or.inl (Tb_at 562 rfl rfl)⟩
set_option maxRecDepth 20000 in
theorem mLS_ok_31 : TOK mprog (mown 7) 140 163 1 0 := ⟨⟨"java/lang/Integer", "bitCount", "(I)I"⟩, prog_11_method_49_code, 1, (some .int), k_Int_bitCount, rfl, by decide +kernel, Tb_at 576 rfl rfl, Or.inl (Tb_at 575 rfl rfl)⟩
set_option maxRecDepth 20000 in
theorem mLS_ok_32 : TOK mprog (mown 7) 157 88 1 0 := ⟨⟨"ZigzagPieces", "kindOf", "(I)I"⟩, prog_1_method_33_code, 1, (some .int), k_Z_kindOf, rfl, by decide +kernel, Tb_at 308 rfl rfl, Or.inl (Tb_at 334 rfl rfl)⟩
set_option maxRecDepth 20000 in
theorem mLS_ok_33 : TOK mprog (mown 7) 160 94 1 0 := ⟨⟨"ZigzagPieces", "itemLength", "(I)I"⟩, prog_1_method_39_code, 1, (some .int), k_Z_itemLength, rfl, by decide +kernel, Tb_at 279 rfl rfl, Or.inl (Tb_at 335 rfl rfl)⟩
set_option maxRecDepth 20000 in
theorem mLS_ok_34 : TOK mprog (mown 7) 163 97 2 0 := ⟨⟨"ZigzagPieces", "letterOf", "(II)I"⟩, prog_1_method_42_code, 3, (some .int), k_Z_letterOf, rfl, by decide +kernel, Tb_at 609 rfl rfl, Or.inl (Tb_at 608 rfl rfl)⟩
set_option maxRecDepth 20000 in
theorem mLS_ok_35 : TOK mprog (mown 7) 167 89 1 0 := ⟨⟨"ZigzagPieces", "lowOf", "(I)I"⟩, prog_1_method_34_code, 1, (some .int), k_Z_lowOf, rfl, by decide +kernel, Tb_at 301 rfl rfl, Or.inl (Tb_at 565 rfl rfl)⟩
set_option maxRecDepth 20000 in
theorem mLS_ok_36 : TOK mprog (mown 7) 170 90 1 0 := ⟨⟨"ZigzagPieces", "highOf", "(I)I"⟩, prog_1_method_35_code, 1, (some .int), k_Z_highOf, rfl, by decide +kernel, Tb_at 304 rfl rfl, Or.inl (Tb_at 566 rfl rfl)⟩
set_option maxRecDepth 20000 in
theorem mLS_ok_37 : TOK mprog (mown 7) 189 100 1 0 := ⟨⟨"ZigzagPieces", "lowestOf", "(I)I"⟩, prog_1_method_45_code, 1, (some .int), k_Z_lowestOf, rfl, by decide +kernel, Tb_at 385 rfl rfl, Or.inl (Tb_at 638 rfl rfl)⟩
set_option maxRecDepth 20000 in
theorem mLS_ok_38 : TOK mprog (mown 7) 201 99 2 0 := ⟨⟨"ZigzagPieces", "isIn", "(II)Z"⟩, prog_1_method_44_code, 2, (some .boolean), k_Z_isIn, rfl, by decide +kernel, Tb_at 315 rfl rfl, Or.inl (Tb_at 648 rfl rfl)⟩
set_option maxRecDepth 20000 in
theorem mLS_ok_39 : TOK mprog (mown 7) 242 0 2 2 := ⟨Tb_at 288 rfl rfl, Tb_at 289 rfl rfl, Tb_at 50 rfl rfl, Tb_at 290 rfl rfl⟩
set_option maxRecDepth 20000 in
theorem mLS_ok_40 : TOK mprog (mown 7) 247 0 2 1 := ⟨Tb_at 291 rfl rfl, Tb_at 104 rfl rfl, Tb_at 50 rfl rfl, Tb_at 105 rfl rfl⟩
set_option maxRecDepth 20000 in
theorem mLS_ok_41 : TOK mprog (mown 7) 250 96 1 0 := ⟨⟨"ZigzagPieces", "letterOfKind", "(I)I"⟩, prog_1_method_41_code, 1, (some .int), k_Z_letterOfKind, rfl, by decide +kernel, Tb_at 612 rfl rfl, Or.inl (Tb_at 611 rfl rfl)⟩
set_option maxRecDepth 20000 in
theorem mLS_ok_42 : TOK mprog (mown 7) 253 162 1 0 := ⟨⟨"java/lang/Integer", "numberOfTrailingZeros", "(I)I"⟩, prog_11_method_48_code, 2, (some .int), k_Int_numberOfTrailingZeros, rfl, by decide +kernel, Tb_at 388 rfl rfl, Or.inl (Tb_at 387 rfl rfl)⟩
set_option maxRecDepth 20000 in
theorem mLS_ok_43 : TOK mprog (mown 8) 54 104 1 0 := ⟨⟨"ZigzagPiecesModel", "oneOf", "(I)I"⟩, prog_10_method_6_code, 1, (some .int), k_M_oneOf, rfl, by decide +kernel, Tb_at 826 rfl rfl, Or.inl (Tb_at 825 rfl rfl)⟩
set_option maxRecDepth 20000 in
theorem mLS_ok_44 : TOK mprog (mown 8) 58 105 1 0 := ⟨⟨"ZigzagPiecesModel", "otherOf", "(I)I"⟩, prog_10_method_7_code, 1, (some .int), k_M_otherOf, rfl, by decide +kernel, Tb_at 829 rfl rfl, Or.inl (Tb_at 828 rfl rfl)⟩
set_option maxRecDepth 20000 in
theorem mLS_ok_45 : TOK mprog (mown 8) 61 103 1 0 := ⟨⟨"ZigzagPiecesModel", "kindOf", "(I)I"⟩, prog_10_method_5_code, 1, (some .int), k_M_kindOf, rfl, by decide +kernel, Tb_at 832 rfl rfl, Or.inl (Tb_at 831 rfl rfl)⟩
set_option maxRecDepth 20000 in
theorem mLS_ok_46 : TOK mprog (mown 8) 67 106 2 0 := ⟨⟨"ZigzagPiecesModel", "has", "(II)Z"⟩, prog_10_method_8_code, 2, (some .boolean), k_M_has, rfl, by decide +kernel, Tb_at 835 rfl rfl, Or.inl (Tb_at 834 rfl rfl)⟩
set_option maxRecDepth 20000 in
theorem mLS_ok_47 : TOK mprog (mown 8) 127 124 1 0 := ⟨⟨"ZigzagPiecesModel", "bits", "(I)I"⟩, prog_10_method_26_code, 3, (some .int), k_M_bits, rfl, by decide +kernel, Tb_at 938 rfl rfl, Or.inl (Tb_at 937 rfl rfl)⟩
set_option maxRecDepth 20000 in
theorem mLS_ok_48 : TOK mprog (mown 8) 130 101 3 0 := ⟨⟨"ZigzagPiecesModel", "in", "(III)Z"⟩, prog_10_method_3_code, 3, (some .boolean), k_M_in, rfl, by decide +kernel, Tb_at 792 rfl rfl, Or.inl (Tb_at 791 rfl rfl)⟩
set_option maxRecDepth 20000 in
theorem mLS_ok_49 : TOK mprog (mown 8) 143 102 3 0 := ⟨⟨"ZigzagPiecesModel", "codeOf", "(III)I"⟩, prog_10_method_4_code, 3, (some .int), k_M_codeOf, rfl, by decide +kernel, Tb_at 819 rfl rfl, Or.inl (Tb_at 818 rfl rfl)⟩
theorem mLS_ok : ∀ q ∈ mLS, TOK mprog (mown q.1) q.2.1 q.2.2.1 q.2.2.2.1 q.2.2.2.2 := List.forall_mem_cons.mpr ⟨mLS_ok_0, List.forall_mem_cons.mpr ⟨mLS_ok_1, List.forall_mem_cons.mpr ⟨mLS_ok_2, List.forall_mem_cons.mpr ⟨mLS_ok_3, List.forall_mem_cons.mpr ⟨mLS_ok_4, List.forall_mem_cons.mpr ⟨mLS_ok_5, List.forall_mem_cons.mpr ⟨mLS_ok_6, List.forall_mem_cons.mpr ⟨mLS_ok_7, List.forall_mem_cons.mpr ⟨mLS_ok_8, List.forall_mem_cons.mpr ⟨mLS_ok_9, List.forall_mem_cons.mpr ⟨mLS_ok_10, List.forall_mem_cons.mpr ⟨mLS_ok_11, List.forall_mem_cons.mpr ⟨mLS_ok_12, List.forall_mem_cons.mpr ⟨mLS_ok_13, List.forall_mem_cons.mpr ⟨mLS_ok_14, List.forall_mem_cons.mpr ⟨mLS_ok_15, List.forall_mem_cons.mpr ⟨mLS_ok_16, List.forall_mem_cons.mpr ⟨mLS_ok_17, List.forall_mem_cons.mpr ⟨mLS_ok_18, List.forall_mem_cons.mpr ⟨mLS_ok_19, List.forall_mem_cons.mpr ⟨mLS_ok_20, List.forall_mem_cons.mpr ⟨mLS_ok_21, List.forall_mem_cons.mpr ⟨mLS_ok_22, List.forall_mem_cons.mpr ⟨mLS_ok_23, List.forall_mem_cons.mpr ⟨mLS_ok_24, List.forall_mem_cons.mpr ⟨mLS_ok_25, List.forall_mem_cons.mpr ⟨mLS_ok_26, List.forall_mem_cons.mpr ⟨mLS_ok_27, List.forall_mem_cons.mpr ⟨mLS_ok_28, List.forall_mem_cons.mpr ⟨mLS_ok_29, List.forall_mem_cons.mpr ⟨mLS_ok_30, List.forall_mem_cons.mpr ⟨mLS_ok_31, List.forall_mem_cons.mpr ⟨mLS_ok_32, List.forall_mem_cons.mpr ⟨mLS_ok_33, List.forall_mem_cons.mpr ⟨mLS_ok_34, List.forall_mem_cons.mpr ⟨mLS_ok_35, List.forall_mem_cons.mpr ⟨mLS_ok_36, List.forall_mem_cons.mpr ⟨mLS_ok_37, List.forall_mem_cons.mpr ⟨mLS_ok_38, List.forall_mem_cons.mpr ⟨mLS_ok_39, List.forall_mem_cons.mpr ⟨mLS_ok_40, List.forall_mem_cons.mpr ⟨mLS_ok_41, List.forall_mem_cons.mpr ⟨mLS_ok_42, List.forall_mem_cons.mpr ⟨mLS_ok_43, List.forall_mem_cons.mpr ⟨mLS_ok_44, List.forall_mem_cons.mpr ⟨mLS_ok_45, List.forall_mem_cons.mpr ⟨mLS_ok_46, List.forall_mem_cons.mpr ⟨mLS_ok_47, List.forall_mem_cons.mpr ⟨mLS_ok_48, List.forall_mem_cons.mpr ⟨mLS_ok_49, fun _ h => absurd h List.not_mem_nil⟩⟩⟩⟩⟩⟩⟩⟩⟩⟩⟩⟩⟩⟩⟩⟩⟩⟩⟩⟩⟩⟩⟩⟩⟩⟩⟩⟩⟩⟩⟩⟩⟩⟩⟩⟩⟩⟩⟩⟩⟩⟩⟩⟩⟩⟩⟩⟩⟩⟩
set_option maxRecDepth 20000 in
theorem mLV_ok_0 : VOK mprog (mown 0) 25 12 4 0 := ⟨⟨"ZigzagPieces$Bars", "compare", "(III)I"⟩, prog_2_method_14_code, 5, (some .int), k_Bars_compare, 3, rfl, rfl, by decide +kernel, Tb_at 423 rfl rfl, Tb_at 6 rfl rfl, ⟨TX0, 4, rfl⟩, Or.inl (Tb_at 421 rfl rfl)⟩
set_option maxRecDepth 20000 in
theorem mLV_ok_1 : VOK mprog (mown 0) 29 11 3 0 := ⟨⟨"ZigzagPieces$Bars", "lastOf", "(II)I"⟩, prog_2_method_13_code, 4, (some .int), k_Bars_lastOf, 2, rfl, rfl, by decide +kernel, Tb_at 670 rfl rfl, Tb_at 15 rfl rfl, ⟨TX0, 4, rfl⟩, Or.inl (Tb_at 668 rfl rfl)⟩
set_option maxRecDepth 20000 in
theorem mLV_ok_2 : VOK mprog (mown 0) 33 4 2 0 := ⟨⟨"ZigzagPieces$Bars", "beginOf", "(I)I"⟩, prog_2_method_6_code, 2, (some .int), k_Bars_beginOf, 1, rfl, rfl, by decide +kernel, Tb_at 426 rfl rfl, Tb_at 427 rfl rfl, ⟨TX0, 4, rfl⟩, Or.inl (Tb_at 425 rfl rfl)⟩
set_option maxRecDepth 20000 in
theorem mLV_ok_3 : VOK mprog (mown 0) 37 6 3 0 := ⟨⟨"ZigzagPieces$Bars", "lengthOf", "(II)I"⟩, prog_2_method_8_code, 3, (some .int), k_Bars_lengthOf, 2, rfl, rfl, by decide +kernel, Tb_at 665 rfl rfl, Tb_at 666 rfl rfl, ⟨TX0, 4, rfl⟩, Or.inl (Tb_at 688 rfl rfl)⟩
set_option maxRecDepth 20000 in
theorem mLV_ok_4 : VOK mprog (mown 0) 45 5 2 0 := ⟨⟨"ZigzagPieces$Bars", "endOf", "(I)I"⟩, prog_2_method_7_code, 2, (some .int), k_Bars_endOf, 1, rfl, rfl, by decide +kernel, Tb_at 433 rfl rfl, Tb_at 434 rfl rfl, ⟨TX0, 4, rfl⟩, Or.inl (Tb_at 432 rfl rfl)⟩
set_option maxRecDepth 20000 in
theorem mLV_ok_5 : VOK mprog (mown 1) 34 24 4 1 := ⟨⟨"ZigzagPieces$Kinship", "setSince", "(III)V"⟩, prog_3_method_13_code, 4, none, k_Kin_setSince, 3, rfl, rfl, by decide +kernel, Tb_at 442 rfl rfl, Tb_at 7 rfl rfl, ⟨TX1, 4, rfl⟩, Or.inl (Tb_at 440 rfl rfl)⟩
set_option maxRecDepth 20000 in
theorem mLV_ok_6 : VOK mprog (mown 1) 42 23 4 1 := ⟨⟨"ZigzagPieces$Kinship", "setSinceOfAll", "(III)V"⟩, prog_3_method_12_code, 5, none, k_Kin_setSinceOfAll, 3, rfl, rfl, by decide +kernel, Tb_at 459 rfl rfl, Tb_at 9 rfl rfl, ⟨TX1, 4, rfl⟩, Or.inl (Tb_at 457 rfl rfl)⟩
set_option maxRecDepth 20000 in
theorem mLV_ok_7 : VOK mprog (mown 1) 45 15 3 1 := ⟨⟨"ZigzagPieces$Kinship", "sinceOf", "(II)I"⟩, prog_3_method_4_code, 3, (some .int), k_Kin_sinceOf, 2, rfl, rfl, by decide +kernel, Tb_at 409 rfl rfl, Tb_at 410 rfl rfl, ⟨TX1, 4, rfl⟩, Or.inl (Tb_at 408 rfl rfl)⟩
set_option maxRecDepth 20000 in
theorem mLV_ok_8 : VOK mprog (mown 1) 54 14 2 1 := ⟨⟨"ZigzagPieces$Kinship", "rootOf", "(I)I"⟩, prog_3_method_3_code, 2, (some .int), k_Kin_rootOf, 1, rfl, rfl, by decide +kernel, Tb_at 414 rfl rfl, Tb_at 415 rfl rfl, ⟨TX1, 4, rfl⟩, Or.inl (Tb_at 413 rfl rfl)⟩
set_option maxRecDepth 20000 in
theorem mLV_ok_9 : VOK mprog (mown 1) 61 22 3 1 := ⟨⟨"ZigzagPieces$Kinship", "lowerRoots", "(II)V"⟩, prog_3_method_11_code, 4, none, k_Kin_lowerRoots, 2, rfl, rfl, by decide +kernel, Tb_at 455 rfl rfl, Tb_at 8 rfl rfl, ⟨TX1, 4, rfl⟩, Or.inl (Tb_at 453 rfl rfl)⟩
set_option maxRecDepth 20000 in
theorem mLV_ok_10 : VOK mprog (mown 2) 36 35 2 2 := ⟨⟨"ZigzagPieces$Net", "nearOf", "(I)I"⟩, prog_4_method_12_code, 2, (some .int), k_Net_nearOf, 1, rfl, rfl, by decide +kernel, Tb_at 319 rfl rfl, Tb_at 2 rfl rfl, ⟨TX2, 3, rfl⟩, Or.inl (Tb_at 317 rfl rfl)⟩
set_option maxRecDepth 20000 in
theorem mLV_ok_11 : VOK mprog (mown 2) 49 28 2 2 := ⟨⟨"ZigzagPieces$Net", "has", "(I)Z"⟩, prog_4_method_5_code, 2, (some .boolean), k_Net_has, 1, rfl, rfl, by decide +kernel, Tb_at 311 rfl rfl, Tb_at 312 rfl rfl, ⟨TX2, 3, rfl⟩, Or.inl (Tb_at 310 rfl rfl)⟩
set_option maxRecDepth 20000 in
theorem mLV_ok_12 : VOK mprog (mown 2) 52 29 3 2 := ⟨⟨"ZigzagPieces$Net", "joined", "(II)Z"⟩, prog_4_method_6_code, 3, (some .boolean), k_Net_joined, 2, rfl, rfl, by decide +kernel, Tb_at 322 rfl rfl, Tb_at 323 rfl rfl, ⟨TX2, 3, rfl⟩, Or.inl (Tb_at 321 rfl rfl)⟩
set_option maxRecDepth 20000 in
theorem mLV_ok_13 : VOK mprog (mown 2) 61 32 2 2 := ⟨⟨"ZigzagPieces$Net", "pieceOf", "(I)I"⟩, prog_4_method_9_code, 6, (some .int), k_Net_pieceOf, 1, rfl, rfl, by decide +kernel, Tb_at 381 rfl rfl, Tb_at 382 rfl rfl, ⟨TX2, 3, rfl⟩, Or.inl (Tb_at 626 rfl rfl)⟩
set_option maxRecDepth 20000 in
theorem mLV_ok_14 : VOK mprog (mown 2) 69 33 1 2 := ⟨⟨"ZigzagPieces$Net", "pieces", "()I"⟩, prog_4_method_10_code, 4, (some .int), k_Net_pieces, 0, rfl, rfl, by decide +kernel, Tb_at 623 rfl rfl, Tb_at 624 rfl rfl, ⟨TX2, 3, rfl⟩, Or.inl (Tb_at 632 rfl rfl)⟩
set_option maxRecDepth 20000 in
theorem mLV_ok_15 : VOK mprog (mown 3) 19 37 1 3 := ⟨⟨"ZigzagPieces$Row", "empty", "()V"⟩, prog_5_method_3_code, 1, none, k_Row_empty, 0, rfl, rfl, by decide +kernel, Tb_at 254 rfl rfl, Tb_at 255 rfl rfl, ⟨TX3, 2, rfl⟩, Or.inl (Tb_at 344 rfl rfl)⟩
set_option maxRecDepth 20000 in
theorem mLV_ok_16 : VOK mprog (mown 3) 22 40 2 3 := ⟨⟨"ZigzagPieces$Row", "actAt", "(I)I"⟩, prog_5_method_6_code, 2, (some .int), k_Row_actAt, 1, rfl, rfl, by decide +kernel, Tb_at 346 rfl rfl, Tb_at 347 rfl rfl, ⟨TX3, 2, rfl⟩, Or.inl (Tb_at 345 rfl rfl)⟩
set_option maxRecDepth 20000 in
theorem mLV_ok_17 : VOK mprog (mown 3) 26 38 2 3 := ⟨⟨"ZigzagPieces$Row", "add", "(I)V"⟩, prog_5_method_4_code, 2, none, k_Row_add, 1, rfl, rfl, by decide +kernel, Tb_at 331 rfl rfl, Tb_at 332 rfl rfl, ⟨TX3, 2, rfl⟩, Or.inl (Tb_at 349 rfl rfl)⟩
set_option maxRecDepth 20000 in
theorem mLV_ok_18 : VOK mprog (mown 4) 26 48 1 4 := ⟨⟨"ZigzagPieces$Shelf", "loseOldest", "()V"⟩, prog_6_method_7_code, 3, none, k_Shf_loseOldest, 0, rfl, rfl, by decide +kernel, Tb_at 525 rfl rfl, Tb_at 11 rfl rfl, ⟨TX4, 2, rfl⟩, Or.inl (Tb_at 523 rfl rfl)⟩
set_option maxRecDepth 20000 in
theorem mLV_ok_19 : VOK mprog (mown 4) 29 46 1 4 := ⟨⟨"ZigzagPieces$Shelf", "last", "()LZigzagPieces$Row;"⟩, prog_6_method_5_code, 1, (some (.object "ZigzagPieces$Row")), k_Shf_last, 0, rfl, rfl, by decide +kernel, Tb_at 528 rfl rfl, Tb_at 529 rfl rfl, ⟨TX4, 2, rfl⟩, Or.inl (Tb_at 527 rfl rfl)⟩
set_option maxRecDepth 20000 in
theorem mLV_ok_20 : VOK mprog (mown 4) 33 42 2 3 := ⟨⟨"ZigzagPieces$Row", "copy", "(LZigzagPieces$Row;)V"⟩, prog_5_method_8_code, 3, none, k_Row_copy, 1, rfl, rfl, by decide +kernel, Tb_at 341 rfl rfl, Tb_at 342 rfl rfl, ⟨TX3, 2, rfl⟩, Or.inl (Tb_at 531 rfl rfl)⟩
set_option maxRecDepth 20000 in
theorem mLV_ok_21 : VOK mprog (mown 5) 32 25 1 2 := ⟨⟨"ZigzagPieces$Net", "empty", "()V"⟩, prog_4_method_2_code, 1, none, k_Net_empty, 0, rfl, rfl, by decide +kernel, Tb_at 247 rfl rfl, Tb_at 248 rfl rfl, ⟨TX2, 3, rfl⟩, Or.inl (Tb_at 362 rfl rfl)⟩
set_option maxRecDepth 20000 in
theorem mLV_ok_22 : VOK mprog (mown 5) 35 13 1 1 := ⟨⟨"ZigzagPieces$Kinship", "empty", "()V"⟩, prog_3_method_2_code, 1, none, k_Kin_empty, 0, rfl, rfl, by decide +kernel, Tb_at 364 rfl rfl, Tb_at 365 rfl rfl, ⟨TX1, 4, rfl⟩, Or.inl (Tb_at 363 rfl rfl)⟩
set_option maxRecDepth 20000 in
theorem mLV_ok_23 : VOK mprog (mown 5) 36 0 1 0 := ⟨⟨"ZigzagPieces$Bars", "empty", "()V"⟩, prog_2_method_2_code, 1, none, k_Bars_empty, 0, rfl, rfl, by decide +kernel, Tb_at 369 rfl rfl, Tb_at 370 rfl rfl, ⟨TX0, 4, rfl⟩, Or.inl (Tb_at 368 rfl rfl)⟩
set_option maxRecDepth 20000 in
theorem mLV_ok_24 : VOK mprog (mown 5) 37 40 2 3 := ⟨⟨"ZigzagPieces$Row", "actAt", "(I)I"⟩, prog_5_method_6_code, 2, (some .int), k_Row_actAt, 1, rfl, rfl, by decide +kernel, Tb_at 346 rfl rfl, Tb_at 347 rfl rfl, ⟨TX3, 2, rfl⟩, Or.inl (Tb_at 372 rfl rfl)⟩
set_option maxRecDepth 20000 in
theorem mLV_ok_25 : VOK mprog (mown 5) 43 30 2 2 := ⟨⟨"ZigzagPieces$Net", "canDo", "(I)Z"⟩, prog_4_method_7_code, 4, (some .boolean), k_Net_canDo, 1, rfl, rfl, by decide +kernel, Tb_at 297 rfl rfl, Tb_at 298 rfl rfl, ⟨TX2, 3, rfl⟩, Or.inl (Tb_at 373 rfl rfl)⟩
set_option maxRecDepth 20000 in
theorem mLV_ok_26 : VOK mprog (mown 5) 47 50 3 5 := ⟨⟨"ZigzagPieces$Story", "step", "(II)V"⟩, prog_7_method_3_code, 7, none, k_Sto_step, 2, rfl, rfl, by decide +kernel, Tb_at 376 rfl rfl, Tb_at 5 rfl rfl, ⟨TX5, 3, rfl⟩, Or.inl (Tb_at 374 rfl rfl)⟩
set_option maxRecDepth 20000 in
theorem mLV_ok_27 : VOK mprog (mown 5) 51 51 1 5 := ⟨⟨"ZigzagPieces$Story", "addOpenBars", "()V"⟩, prog_7_method_4_code, 3, none, k_Sto_addOpenBars, 0, rfl, rfl, by decide +kernel, Tb_at 467 rfl rfl, Tb_at 10 rfl rfl, ⟨TX5, 3, rfl⟩, Or.inl (Tb_at 465 rfl rfl)⟩
set_option maxRecDepth 20000 in
theorem mLV_ok_28 : VOK mprog (mown 5) 60 32 2 2 := ⟨⟨"ZigzagPieces$Net", "pieceOf", "(I)I"⟩, prog_4_method_9_code, 6, (some .int), k_Net_pieceOf, 1, rfl, rfl, by decide +kernel, Tb_at 381 rfl rfl, Tb_at 382 rfl rfl, ⟨TX2, 3, rfl⟩, Or.inl (Tb_at 380 rfl rfl)⟩
set_option maxRecDepth 20000 in
theorem mLV_ok_29 : VOK mprog (mown 5) 67 31 2 2 := ⟨⟨"ZigzagPieces$Net", "change", "(I)V"⟩, prog_4_method_8_code, 4, none, k_Net_change, 1, rfl, rfl, by decide +kernel, Tb_at 326 rfl rfl, Tb_at 327 rfl rfl, ⟨TX2, 3, rfl⟩, Or.inl (Tb_at 392 rfl rfl)⟩
set_option maxRecDepth 20000 in
theorem mLV_ok_30 : VOK mprog (mown 5) 74 16 3 1 := ⟨⟨"ZigzagPieces$Kinship", "come", "(II)V"⟩, prog_3_method_5_code, 3, none, k_Kin_come, 2, rfl, rfl, by decide +kernel, Tb_at 395 rfl rfl, Tb_at 396 rfl rfl, ⟨TX1, 4, rfl⟩, Or.inl (Tb_at 394 rfl rfl)⟩
set_option maxRecDepth 20000 in
theorem mLV_ok_31 : VOK mprog (mown 5) 77 26 1 2 := ⟨⟨"ZigzagPieces$Net", "points", "()I"⟩, prog_4_method_3_code, 1, (some .int), k_Net_points, 0, rfl, rfl, by decide +kernel, Tb_at 400 rfl rfl, Tb_at 401 rfl rfl, ⟨TX2, 3, rfl⟩, Or.inl (Tb_at 399 rfl rfl)⟩
set_option maxRecDepth 20000 in
theorem mLV_ok_32 : VOK mprog (mown 5) 81 19 3 1 := ⟨⟨"ZigzagPieces$Kinship", "beginOfGoing", "(II)I"⟩, prog_3_method_8_code, 5, (some .int), k_Kin_beginOfGoing, 2, rfl, rfl, by decide +kernel, Tb_at 404 rfl rfl, Tb_at 405 rfl rfl, ⟨TX1, 4, rfl⟩, Or.inl (Tb_at 403 rfl rfl)⟩
set_option maxRecDepth 20000 in
theorem mLV_ok_33 : VOK mprog (mown 5) 85 3 3 0 := ⟨⟨"ZigzagPieces$Bars", "add", "(II)V"⟩, prog_2_method_5_code, 4, none, k_Bars_add, 2, rfl, rfl, by decide +kernel, Tb_at 418 rfl rfl, Tb_at 419 rfl rfl, ⟨TX0, 4, rfl⟩, Or.inl (Tb_at 417 rfl rfl)⟩
set_option maxRecDepth 20000 in
theorem mLV_ok_34 : VOK mprog (mown 5) 88 17 2 1 := ⟨⟨"ZigzagPieces$Kinship", "go", "(I)V"⟩, prog_3_method_6_code, 3, none, k_Kin_go, 1, rfl, rfl, by decide +kernel, Tb_at 437 rfl rfl, Tb_at 438 rfl rfl, ⟨TX1, 4, rfl⟩, Or.inl (Tb_at 436 rfl rfl)⟩
set_option maxRecDepth 20000 in
theorem mLV_ok_35 : VOK mprog (mown 5) 91 20 3 1 := ⟨⟨"ZigzagPieces$Kinship", "beginOfJoining", "(II)I"⟩, prog_3_method_9_code, 4, (some .int), k_Kin_beginOfJoining, 2, rfl, rfl, by decide +kernel, Tb_at 445 rfl rfl, Tb_at 446 rfl rfl, ⟨TX1, 4, rfl⟩, Or.inl (Tb_at 444 rfl rfl)⟩
set_option maxRecDepth 20000 in
theorem mLV_ok_36 : VOK mprog (mown 5) 94 21 4 1 := ⟨⟨"ZigzagPieces$Kinship", "join", "(III)V"⟩, prog_3_method_10_code, 7, none, k_Kin_join, 3, rfl, rfl, by decide +kernel, Tb_at 449 rfl rfl, Tb_at 450 rfl rfl, ⟨TX1, 4, rfl⟩, Or.inl (Tb_at 448 rfl rfl)⟩
set_option maxRecDepth 20000 in
theorem mLV_ok_37 : VOK mprog (mown 5) 98 18 4 1 := ⟨⟨"ZigzagPieces$Kinship", "part", "(III)V"⟩, prog_3_method_7_code, 5, none, k_Kin_part, 3, rfl, rfl, by decide +kernel, Tb_at 462 rfl rfl, Tb_at 463 rfl rfl, ⟨TX1, 4, rfl⟩, Or.inl (Tb_at 461 rfl rfl)⟩
set_option maxRecDepth 20000 in
theorem mLV_ok_38 : VOK mprog (mown 6) 19 56 2 6 := ⟨⟨"ZigzagPieces$Text", "letterAt", "(I)I"⟩, prog_8_method_6_code, 2, (some .int), k_Txt_letterAt, 1, rfl, rfl, by decide +kernel, Tb_at 267 rfl rfl, Tb_at 1 rfl rfl, ⟨TX6, 2, rfl⟩, Or.inl (Tb_at 265 rfl rfl)⟩
set_option maxRecDepth 20000 in
theorem mLV_ok_39 : VOK mprog (mown 7) 60 54 2 6 := ⟨⟨"ZigzagPieces$Text", "add", "(I)V"⟩, prog_8_method_4_code, 2, none, k_Txt_add, 1, rfl, rfl, by decide +kernel, Tb_at 239 rfl rfl, Tb_at 240 rfl rfl, ⟨TX6, 2, rfl⟩, Or.inl (Tb_at 238 rfl rfl)⟩
set_option maxRecDepth 20000 in
theorem mLV_ok_40 : VOK mprog (mown 7) 63 81 1 7 := ⟨⟨"ZigzagPieces", "readText", "()I"⟩, prog_1_method_26_code, 5, (some .int), k_Z_readText, 0, rfl, rfl, by decide +kernel, Tb_at 244 rfl rfl, Tb_at 0 rfl rfl, ⟨TX7, 7, rfl⟩, Or.inl (Tb_at 242 rfl rfl)⟩
set_option maxRecDepth 20000 in
theorem mLV_ok_41 : VOK mprog (mown 7) 66 82 1 7 := ⟨⟨"ZigzagPieces", "layTrial", "()V"⟩, prog_1_method_27_code, 1, none, k_Z_layTrial, 0, rfl, rfl, by decide +kernel, Tb_at 338 rfl rfl, Tb_at 3 rfl rfl, ⟨TX7, 7, rfl⟩, Or.inl (Tb_at 336 rfl rfl)⟩
set_option maxRecDepth 20000 in
theorem mLV_ok_42 : VOK mprog (mown 7) 69 53 1 6 := ⟨⟨"ZigzagPieces$Text", "empty", "()V"⟩, prog_8_method_3_code, 1, none, k_Txt_empty, 0, rfl, rfl, by decide +kernel, Tb_at 470 rfl rfl, Tb_at 471 rfl rfl, ⟨TX6, 2, rfl⟩, Or.inl (Tb_at 469 rfl rfl)⟩
set_option maxRecDepth 20000 in
theorem mLV_ok_43 : VOK mprog (mown 7) 72 52 1 6 := ⟨⟨"ZigzagPieces$Text", "length", "()I"⟩, prog_8_method_2_code, 1, (some .int), k_Txt_length, 0, rfl, rfl, by decide +kernel, Tb_at 258 rfl rfl, Tb_at 259 rfl rfl, ⟨TX6, 2, rfl⟩, Or.inl (Tb_at 257 rfl rfl)⟩
set_option maxRecDepth 20000 in
theorem mLV_ok_44 : VOK mprog (mown 7) 73 36 1 3 := ⟨⟨"ZigzagPieces$Row", "size", "()I"⟩, prog_5_method_2_code, 1, (some .int), k_Row_size, 0, rfl, rfl, by decide +kernel, Tb_at 293 rfl rfl, Tb_at 294 rfl rfl, ⟨TX3, 2, rfl⟩, Or.inl (Tb_at 292 rfl rfl)⟩
set_option maxRecDepth 20000 in
theorem mLV_ok_45 : VOK mprog (mown 7) 94 30 2 2 := ⟨⟨"ZigzagPieces$Net", "canDo", "(I)Z"⟩, prog_4_method_7_code, 4, (some .boolean), k_Net_canDo, 1, rfl, rfl, by decide +kernel, Tb_at 297 rfl rfl, Tb_at 298 rfl rfl, ⟨TX2, 3, rfl⟩, Or.inl (Tb_at 296 rfl rfl)⟩
set_option maxRecDepth 20000 in
theorem mLV_ok_46 : VOK mprog (mown 7) 99 45 2 4 := ⟨⟨"ZigzagPieces$Shelf", "put", "(LZigzagPieces$Row;)V"⟩, prog_6_method_4_code, 3, none, k_Shf_put, 1, rfl, rfl, by decide +kernel, Tb_at 520 rfl rfl, Tb_at 521 rfl rfl, ⟨TX4, 2, rfl⟩, Or.inl (Tb_at 519 rfl rfl)⟩
set_option maxRecDepth 20000 in
theorem mLV_ok_47 : VOK mprog (mown 7) 103 38 2 3 := ⟨⟨"ZigzagPieces$Row", "add", "(I)V"⟩, prog_5_method_4_code, 2, none, k_Row_add, 1, rfl, rfl, by decide +kernel, Tb_at 331 rfl rfl, Tb_at 332 rfl rfl, ⟨TX3, 2, rfl⟩, Or.inl (Tb_at 330 rfl rfl)⟩
set_option maxRecDepth 20000 in
theorem mLV_ok_48 : VOK mprog (mown 7) 104 83 1 7 := ⟨⟨"ZigzagPieces", "tellAnew", "()V"⟩, prog_1_method_28_code, 1, none, k_Z_tellAnew, 0, rfl, rfl, by decide +kernel, Tb_at 356 rfl rfl, Tb_at 4 rfl rfl, ⟨TX7, 7, rfl⟩, Or.inl (Tb_at 354 rfl rfl)⟩
set_option maxRecDepth 20000 in
theorem mLV_ok_49 : VOK mprog (mown 7) 107 39 1 3 := ⟨⟨"ZigzagPieces$Row", "removeLast", "()V"⟩, prog_5_method_5_code, 1, none, k_Row_removeLast, 0, rfl, rfl, by decide +kernel, Tb_at 537 rfl rfl, Tb_at 538 rfl rfl, ⟨TX3, 2, rfl⟩, Or.inl (Tb_at 536 rfl rfl)⟩
set_option maxRecDepth 20000 in
theorem mLV_ok_50 : VOK mprog (mown 7) 110 84 2 7 := ⟨⟨"ZigzagPieces", "tryExchange", "(I)Z"⟩, prog_1_method_29_code, 2, (some .boolean), k_Z_tryExchange, 1, rfl, rfl, by decide +kernel, Tb_at 546 rfl rfl, Tb_at 12 rfl rfl, ⟨TX7, 7, rfl⟩, Or.inl (Tb_at 544 rfl rfl)⟩
set_option maxRecDepth 20000 in
theorem mLV_ok_51 : VOK mprog (mown 7) 117 10 2 0 := ⟨⟨"ZigzagPieces$Bars", "withoutPartnerIn", "(LZigzagPieces$Bars;)I"⟩, prog_2_method_12_code, 6, (some .int), k_Bars_withoutPartnerIn, 1, rfl, rfl, by decide +kernel, Tb_at 553 rfl rfl, Tb_at 554 rfl rfl, ⟨TX0, 4, rfl⟩, Or.inl (Tb_at 552 rfl rfl)⟩
set_option maxRecDepth 20000 in
theorem mLV_ok_52 : VOK mprog (mown 7) 123 42 2 3 := ⟨⟨"ZigzagPieces$Row", "copy", "(LZigzagPieces$Row;)V"⟩, prog_5_method_8_code, 3, none, k_Row_copy, 1, rfl, rfl, by decide +kernel, Tb_at 341 rfl rfl, Tb_at 342 rfl rfl, ⟨TX3, 2, rfl⟩, Or.inl (Tb_at 340 rfl rfl)⟩
set_option maxRecDepth 20000 in
theorem mLV_ok_53 : VOK mprog (mown 7) 126 26 1 2 := ⟨⟨"ZigzagPieces$Net", "points", "()I"⟩, prog_4_method_3_code, 1, (some .int), k_Net_points, 0, rfl, rfl, by decide +kernel, Tb_at 400 rfl rfl, Tb_at 401 rfl rfl, ⟨TX2, 3, rfl⟩, Or.inl (Tb_at 560 rfl rfl)⟩
set_option maxRecDepth 20000 in
theorem mLV_ok_54 : VOK mprog (mown 7) 129 37 1 3 := ⟨⟨"ZigzagPieces$Row", "empty", "()V"⟩, prog_5_method_3_code, 1, none, k_Row_empty, 0, rfl, rfl, by decide +kernel, Tb_at 254 rfl rfl, Tb_at 255 rfl rfl, ⟨TX3, 2, rfl⟩, Or.inl (Tb_at 253 rfl rfl)⟩
set_option maxRecDepth 20000 in
theorem mLV_ok_55 : VOK mprog (mown 7) 130 40 2 3 := ⟨⟨"ZigzagPieces$Row", "actAt", "(I)I"⟩, prog_5_method_6_code, 2, (some .int), k_Row_actAt, 1, rfl, rfl, by decide +kernel, Tb_at 346 rfl rfl, Tb_at 347 rfl rfl, ⟨TX3, 2, rfl⟩, Or.inl (Tb_at 561 rfl rfl)⟩
set_option maxRecDepth 20000 in
theorem mLV_ok_56 : VOK mprog (mown 7) 137 27 1 2 := ⟨⟨"ZigzagPieces$Net", "edges", "()I"⟩, prog_4_method_4_code, 1, (some .int), k_Net_edges, 0, rfl, rfl, by decide +kernel, Tb_at 572 rfl rfl, Tb_at 573 rfl rfl, ⟨TX2, 3, rfl⟩, Or.inl (Tb_at 571 rfl rfl)⟩
set_option maxRecDepth 20000 in
theorem mLV_ok_57 : VOK mprog (mown 7) 145 85 1 7 := ⟨⟨"ZigzagPieces", "addEdgesGoing", "()V"⟩, prog_1_method_30_code, 3, none, k_Z_addEdgesGoing, 0, rfl, rfl, by decide +kernel, Tb_at 583 rfl rfl, Tb_at 13 rfl rfl, ⟨TX7, 7, rfl⟩, Or.inl (Tb_at 581 rfl rfl)⟩
set_option maxRecDepth 20000 in
theorem mLV_ok_58 : VOK mprog (mown 7) 148 86 1 7 := ⟨⟨"ZigzagPieces", "addPointsGoing", "()V"⟩, prog_1_method_31_code, 2, none, k_Z_addPointsGoing, 0, rfl, rfl, by decide +kernel, Tb_at 588 rfl rfl, Tb_at 14 rfl rfl, ⟨TX7, 7, rfl⟩, Or.inl (Tb_at 586 rfl rfl)⟩
set_option maxRecDepth 20000 in
theorem mLV_ok_59 : VOK mprog (mown 7) 151 46 1 4 := ⟨⟨"ZigzagPieces$Shelf", "last", "()LZigzagPieces$Row;"⟩, prog_6_method_5_code, 1, (some (.object "ZigzagPieces$Row")), k_Shf_last, 0, rfl, rfl, by decide +kernel, Tb_at 528 rfl rfl, Tb_at 529 rfl rfl, ⟨TX4, 2, rfl⟩, Or.inl (Tb_at 595 rfl rfl)⟩
set_option maxRecDepth 20000 in
theorem mLV_ok_60 : VOK mprog (mown 7) 155 47 1 4 := ⟨⟨"ZigzagPieces$Shelf", "removeLast", "()V"⟩, prog_6_method_6_code, 1, none, k_Shf_removeLast, 0, rfl, rfl, by decide +kernel, Tb_at 597 rfl rfl, Tb_at 598 rfl rfl, ⟨TX4, 2, rfl⟩, Or.inl (Tb_at 596 rfl rfl)⟩
set_option maxRecDepth 20000 in
theorem mLV_ok_61 : VOK mprog (mown 7) 156 43 1 4 := ⟨⟨"ZigzagPieces$Shelf", "size", "()I"⟩, prog_6_method_2_code, 1, (some .int), k_Shf_size, 0, rfl, rfl, by decide +kernel, Tb_at 601 rfl rfl, Tb_at 602 rfl rfl, ⟨TX4, 2, rfl⟩, Or.inl (Tb_at 600 rfl rfl)⟩
set_option maxRecDepth 20000 in
theorem mLV_ok_62 : VOK mprog (mown 7) 173 49 3 5 := ⟨⟨"ZigzagPieces$Story", "play", "(LZigzagPieces$Row;I)Z"⟩, prog_7_method_2_code, 5, (some .boolean), k_Sto_play, 2, rfl, rfl, by decide +kernel, Tb_at 359 rfl rfl, Tb_at 360 rfl rfl, ⟨TX5, 3, rfl⟩, Or.inl (Tb_at 358 rfl rfl)⟩
set_option maxRecDepth 20000 in
theorem mLV_ok_63 : VOK mprog (mown 7) 177 33 1 2 := ⟨⟨"ZigzagPieces$Net", "pieces", "()I"⟩, prog_4_method_10_code, 4, (some .int), k_Net_pieces, 0, rfl, rfl, by decide +kernel, Tb_at 623 rfl rfl, Tb_at 624 rfl rfl, ⟨TX2, 3, rfl⟩, Or.inl (Tb_at 622 rfl rfl)⟩
set_option maxRecDepth 20000 in
theorem mLV_ok_64 : VOK mprog (mown 7) 180 34 1 2 := ⟨⟨"ZigzagPieces$Net", "loops", "()I"⟩, prog_4_method_11_code, 1, (some .int), k_Net_loops, 0, rfl, rfl, by decide +kernel, Tb_at 628 rfl rfl, Tb_at 629 rfl rfl, ⟨TX2, 3, rfl⟩, Or.inl (Tb_at 627 rfl rfl)⟩
set_option maxRecDepth 20000 in
theorem mLV_ok_65 : VOK mprog (mown 7) 183 28 2 2 := ⟨⟨"ZigzagPieces$Net", "has", "(I)Z"⟩, prog_4_method_5_code, 2, (some .boolean), k_Net_has, 1, rfl, rfl, by decide +kernel, Tb_at 311 rfl rfl, Tb_at 312 rfl rfl, ⟨TX2, 3, rfl⟩, Or.inl (Tb_at 590 rfl rfl)⟩
set_option maxRecDepth 20000 in
theorem mLV_ok_66 : VOK mprog (mown 7) 186 32 2 2 := ⟨⟨"ZigzagPieces$Net", "pieceOf", "(I)I"⟩, prog_4_method_9_code, 6, (some .int), k_Net_pieceOf, 1, rfl, rfl, by decide +kernel, Tb_at 381 rfl rfl, Tb_at 382 rfl rfl, ⟨TX2, 3, rfl⟩, Or.inl (Tb_at 637 rfl rfl)⟩
set_option maxRecDepth 20000 in
theorem mLV_ok_67 : VOK mprog (mown 7) 196 14 2 1 := ⟨⟨"ZigzagPieces$Kinship", "rootOf", "(I)I"⟩, prog_3_method_3_code, 2, (some .int), k_Kin_rootOf, 1, rfl, rfl, by decide +kernel, Tb_at 414 rfl rfl, Tb_at 415 rfl rfl, ⟨TX1, 4, rfl⟩, Or.inl (Tb_at 643 rfl rfl)⟩
set_option maxRecDepth 20000 in
theorem mLV_ok_68 : VOK mprog (mown 7) 205 15 3 1 := ⟨⟨"ZigzagPieces$Kinship", "sinceOf", "(II)I"⟩, prog_3_method_4_code, 3, (some .int), k_Kin_sinceOf, 2, rfl, rfl, by decide +kernel, Tb_at 409 rfl rfl, Tb_at 410 rfl rfl, ⟨TX1, 4, rfl⟩, Or.inl (Tb_at 649 rfl rfl)⟩
set_option maxRecDepth 20000 in
theorem mLV_ok_69 : VOK mprog (mown 7) 208 1 1 0 := ⟨⟨"ZigzagPieces$Bars", "size", "()I"⟩, prog_2_method_3_code, 1, (some .int), k_Bars_size, 0, rfl, rfl, by decide +kernel, Tb_at 655 rfl rfl, Tb_at 656 rfl rfl, ⟨TX0, 4, rfl⟩, Or.inl (Tb_at 654 rfl rfl)⟩
set_option maxRecDepth 20000 in
theorem mLV_ok_70 : VOK mprog (mown 7) 209 2 1 0 := ⟨⟨"ZigzagPieces$Bars", "open", "()I"⟩, prog_2_method_4_code, 1, (some .int), k_Bars_open, 0, rfl, rfl, by decide +kernel, Tb_at 659 rfl rfl, Tb_at 660 rfl rfl, ⟨TX0, 4, rfl⟩, Or.inl (Tb_at 658 rfl rfl)⟩
set_option maxRecDepth 20000 in
theorem mLV_ok_71 : VOK mprog (mown 7) 212 4 2 0 := ⟨⟨"ZigzagPieces$Bars", "beginOf", "(I)I"⟩, prog_2_method_6_code, 2, (some .int), k_Bars_beginOf, 1, rfl, rfl, by decide +kernel, Tb_at 426 rfl rfl, Tb_at 427 rfl rfl, ⟨TX0, 4, rfl⟩, Or.inl (Tb_at 662 rfl rfl)⟩
set_option maxRecDepth 20000 in
theorem mLV_ok_72 : VOK mprog (mown 7) 215 5 2 0 := ⟨⟨"ZigzagPieces$Bars", "endOf", "(I)I"⟩, prog_2_method_7_code, 2, (some .int), k_Bars_endOf, 1, rfl, rfl, by decide +kernel, Tb_at 433 rfl rfl, Tb_at 434 rfl rfl, ⟨TX0, 4, rfl⟩, Or.inl (Tb_at 663 rfl rfl)⟩
set_option maxRecDepth 20000 in
theorem mLV_ok_73 : VOK mprog (mown 7) 218 6 3 0 := ⟨⟨"ZigzagPieces$Bars", "lengthOf", "(II)I"⟩, prog_2_method_8_code, 3, (some .int), k_Bars_lengthOf, 2, rfl, rfl, by decide +kernel, Tb_at 665 rfl rfl, Tb_at 666 rfl rfl, ⟨TX0, 4, rfl⟩, Or.inl (Tb_at 664 rfl rfl)⟩
set_option maxRecDepth 20000 in
theorem mLV_ok_74 : VOK mprog (mown 7) 221 9 4 0 := ⟨⟨"ZigzagPieces$Bars", "spanning", "(III)I"⟩, prog_2_method_11_code, 6, (some .int), k_Bars_spanning, 3, rfl, rfl, by decide +kernel, Tb_at 677 rfl rfl, Tb_at 678 rfl rfl, ⟨TX0, 4, rfl⟩, Or.inl (Tb_at 676 rfl rfl)⟩
set_option maxRecDepth 20000 in
theorem mLV_ok_75 : VOK mprog (mown 7) 224 8 3 0 := ⟨⟨"ZigzagPieces$Bars", "atLeast", "(II)I"⟩, prog_2_method_10_code, 5, (some .int), k_Bars_atLeast, 2, rfl, rfl, by decide +kernel, Tb_at 685 rfl rfl, Tb_at 686 rfl rfl, ⟨TX0, 4, rfl⟩, Or.inl (Tb_at 684 rfl rfl)⟩
set_option maxRecDepth 20000 in
theorem mLV_ok_76 : VOK mprog (mown 7) 227 7 2 0 := ⟨⟨"ZigzagPieces$Bars", "longest", "(I)I"⟩, prog_2_method_9_code, 4, (some .int), k_Bars_longest, 1, rfl, rfl, by decide +kernel, Tb_at 694 rfl rfl, Tb_at 695 rfl rfl, ⟨TX0, 4, rfl⟩, Or.inl (Tb_at 693 rfl rfl)⟩
set_option maxRecDepth 20000 in
theorem mLV_ok_77 : VOK mprog (mown 7) 230 44 1 4 := ⟨⟨"ZigzagPieces$Shelf", "empty", "()V"⟩, prog_6_method_3_code, 1, none, k_Shf_empty, 0, rfl, rfl, by decide +kernel, Tb_at 351 rfl rfl, Tb_at 352 rfl rfl, ⟨TX4, 2, rfl⟩, Or.inl (Tb_at 350 rfl rfl)⟩
set_option maxRecDepth 20000 in
theorem mLV_ok_78 : VOK mprog (mown 7) 231 25 1 2 := ⟨⟨"ZigzagPieces$Net", "empty", "()V"⟩, prog_4_method_2_code, 1, none, k_Net_empty, 0, rfl, rfl, by decide +kernel, Tb_at 247 rfl rfl, Tb_at 248 rfl rfl, ⟨TX2, 3, rfl⟩, Or.inl (Tb_at 246 rfl rfl)⟩
set_option maxRecDepth 20000 in
theorem mLV_ok_79 : VOK mprog (mown 7) 232 55 2 6 := ⟨⟨"ZigzagPieces$Text", "actAt", "(I)I"⟩, prog_8_method_5_code, 6, (some .int), k_Txt_actAt, 1, rfl, rfl, by decide +kernel, Tb_at 262 rfl rfl, Tb_at 263 rfl rfl, ⟨TX6, 2, rfl⟩, Or.inl (Tb_at 261 rfl rfl)⟩
set_option maxRecDepth 20000 in
theorem mLV_ok_80 : VOK mprog (mown 7) 233 31 2 2 := ⟨⟨"ZigzagPieces$Net", "change", "(I)V"⟩, prog_4_method_8_code, 4, none, k_Net_change, 1, rfl, rfl, by decide +kernel, Tb_at 326 rfl rfl, Tb_at 327 rfl rfl, ⟨TX2, 3, rfl⟩, Or.inl (Tb_at 325 rfl rfl)⟩
set_option maxRecDepth 20000 in
theorem mLV_ok_81 : VOK mprog (mown 7) 236 41 2 3 := ⟨⟨"ZigzagPieces$Row", "swapWithNext", "(I)V"⟩, prog_5_method_7_code, 3, none, k_Row_swapWithNext, 1, rfl, rfl, by decide +kernel, Tb_at 549 rfl rfl, Tb_at 550 rfl rfl, ⟨TX3, 2, rfl⟩, Or.inl (Tb_at 548 rfl rfl)⟩
set_option maxRecDepth 20000 in
theorem mLV_ok_82 : VOK mprog (mown 7) 239 29 3 2 := ⟨⟨"ZigzagPieces$Net", "joined", "(II)Z"⟩, prog_4_method_6_code, 3, (some .boolean), k_Net_joined, 2, rfl, rfl, by decide +kernel, Tb_at 322 rfl rfl, Tb_at 323 rfl rfl, ⟨TX2, 3, rfl⟩, Or.inl (Tb_at 585 rfl rfl)⟩
set_option maxRecDepth 20000 in
theorem mLV_ok_83 : VOK mprog (mown 8) 77 110 3 8 := ⟨⟨"ZigzagPiecesModel", "kinOf", "(II)I"⟩, prog_10_method_12_code, 3, (some .int), k_M_kinOf, 2, rfl, rfl, by decide +kernel, Tb_at 859 rfl rfl, Tb_at 26 rfl rfl, ⟨TX8, 22, rfl⟩, Or.inl (Tb_at 857 rfl rfl)⟩
set_option maxRecDepth 20000 in
theorem mLV_ok_84 : VOK mprog (mown 8) 81 112 3 8 := ⟨⟨"ZigzagPiecesModel", "ends", "(II)V"⟩, prog_10_method_14_code, 3, none, k_M_ends, 2, rfl, rfl, by decide +kernel, Tb_at 863 rfl rfl, Tb_at 27 rfl rfl, ⟨TX8, 22, rfl⟩, Or.inl (Tb_at 861 rfl rfl)⟩
set_option maxRecDepth 20000 in
theorem mLV_ok_85 : VOK mprog (mown 8) 85 109 1 8 := ⟨⟨"ZigzagPiecesModel", "freePiece", "()I"⟩, prog_10_method_11_code, 2, (some .int), k_M_freePiece, 0, rfl, rfl, by decide +kernel, Tb_at 847 rfl rfl, Tb_at 23 rfl rfl, ⟨TX8, 22, rfl⟩, Or.inl (Tb_at 845 rfl rfl)⟩
set_option maxRecDepth 20000 in
theorem mLV_ok_86 : VOK mprog (mown 8) 89 111 4 8 := ⟨⟨"ZigzagPiecesModel", "makesKin", "(III)V"⟩, prog_10_method_13_code, 4, none, k_M_makesKin, 3, rfl, rfl, by decide +kernel, Tb_at 851 rfl rfl, Tb_at 24 rfl rfl, ⟨TX8, 22, rfl⟩, Or.inl (Tb_at 849 rfl rfl)⟩
set_option maxRecDepth 20000 in
theorem mLV_ok_87 : VOK mprog (mown 8) 93 108 2 8 := ⟨⟨"ZigzagPiecesModel", "reach", "(I)I"⟩, prog_10_method_10_code, 5, (some .int), k_M_reach, 1, rfl, rfl, by decide +kernel, Tb_at 879 rfl rfl, Tb_at 31 rfl rfl, ⟨TX8, 22, rfl⟩, Or.inl (Tb_at 877 rfl rfl)⟩
set_option maxRecDepth 20000 in
theorem mLV_ok_88 : VOK mprog (mown 8) 96 116 4 8 := ⟨⟨"ZigzagPiecesModel", "bindsNear", "(III)V"⟩, prog_10_method_18_code, 7, none, k_M_bindsNear, 3, rfl, rfl, by decide +kernel, Tb_at 871 rfl rfl, Tb_at 29 rfl rfl, ⟨TX8, 22, rfl⟩, Or.inl (Tb_at 869 rfl rfl)⟩
set_option maxRecDepth 20000 in
theorem mLV_ok_89 : VOK mprog (mown 8) 99 114 3 8 := ⟨⟨"ZigzagPiecesModel", "comes", "(II)V"⟩, prog_10_method_16_code, 5, none, k_M_comes, 2, rfl, rfl, by decide +kernel, Tb_at 843 rfl rfl, Tb_at 22 rfl rfl, ⟨TX8, 22, rfl⟩, Or.inl (Tb_at 841 rfl rfl)⟩
set_option maxRecDepth 20000 in
theorem mLV_ok_90 : VOK mprog (mown 8) 102 113 3 8 := ⟨⟨"ZigzagPiecesModel", "goes", "(II)V"⟩, prog_10_method_15_code, 5, none, k_M_goes, 2, rfl, rfl, by decide +kernel, Tb_at 855 rfl rfl, Tb_at 25 rfl rfl, ⟨TX8, 22, rfl⟩, Or.inl (Tb_at 853 rfl rfl)⟩
set_option maxRecDepth 20000 in
theorem mLV_ok_91 : VOK mprog (mown 8) 105 117 4 8 := ⟨⟨"ZigzagPiecesModel", "joins", "(III)V"⟩, prog_10_method_19_code, 11, none, k_M_joins, 3, rfl, rfl, by decide +kernel, Tb_at 867 rfl rfl, Tb_at 28 rfl rfl, ⟨TX8, 22, rfl⟩, Or.inl (Tb_at 865 rfl rfl)⟩
set_option maxRecDepth 20000 in
theorem mLV_ok_92 : VOK mprog (mown 8) 108 115 4 8 := ⟨⟨"ZigzagPiecesModel", "parts", "(III)V"⟩, prog_10_method_17_code, 8, none, k_M_parts, 3, rfl, rfl, by decide +kernel, Tb_at 875 rfl rfl, Tb_at 30 rfl rfl, ⟨TX8, 22, rfl⟩, Or.inl (Tb_at 873 rfl rfl)⟩
set_option maxRecDepth 20000 in
theorem mLV_ok_93 : VOK mprog (mown 8) 111 119 1 8 := ⟨⟨"ZigzagPiecesModel", "begins", "()V"⟩, prog_10_method_21_code, 2, none, k_M_begins, 0, rfl, rfl, by decide +kernel, Tb_at 808 rfl rfl, Tb_at 17 rfl rfl, ⟨TX8, 22, rfl⟩, Or.inl (Tb_at 806 rfl rfl)⟩
set_option maxRecDepth 20000 in
theorem mLV_ok_94 : VOK mprog (mown 8) 114 107 2 8 := ⟨⟨"ZigzagPiecesModel", "may", "(I)Z"⟩, prog_10_method_9_code, 4, (some .boolean), k_M_may, 1, rfl, rfl, by decide +kernel, Tb_at 823 rfl rfl, Tb_at 20 rfl rfl, ⟨TX8, 22, rfl⟩, Or.inl (Tb_at 821 rfl rfl)⟩
set_option maxRecDepth 20000 in
theorem mLV_ok_95 : VOK mprog (mown 8) 118 118 3 8 := ⟨⟨"ZigzagPiecesModel", "does", "(II)V"⟩, prog_10_method_20_code, 5, none, k_M_does, 2, rfl, rfl, by decide +kernel, Tb_at 839 rfl rfl, Tb_at 21 rfl rfl, ⟨TX8, 22, rfl⟩, Or.inl (Tb_at 837 rfl rfl)⟩
set_option maxRecDepth 20000 in
theorem mLV_ok_96 : VOK mprog (mown 8) 121 120 2 8 := ⟨⟨"ZigzagPiecesModel", "runs", "(I)Z"⟩, prog_10_method_22_code, 3, (some .boolean), k_M_runs, 1, rfl, rfl, by decide +kernel, Tb_at 891 rfl rfl, Tb_at 32 rfl rfl, ⟨TX8, 22, rfl⟩, Or.inl (Tb_at 889 rfl rfl)⟩
set_option maxRecDepth 20000 in
theorem mLV_ok_97 : VOK mprog (mown 8) 124 121 2 8 := ⟨⟨"ZigzagPiecesModel", "lowestOf", "(I)I"⟩, prog_10_method_23_code, 3, (some .int), k_M_lowestOf, 1, rfl, rfl, by decide +kernel, Tb_at 911 rfl rfl, Tb_at 35 rfl rfl, ⟨TX8, 22, rfl⟩, Or.inl (Tb_at 909 rfl rfl)⟩
set_option maxRecDepth 20000 in
theorem mLV_ok_98 : VOK mprog (mown 8) 140 128 2 8 := ⟨⟨"ZigzagPiecesModel", "figureAt", "(I)I"⟩, prog_10_method_30_code, 2, (some .int), k_M_figureAt, 1, rfl, rfl, by decide +kernel, Tb_at 816 rfl rfl, Tb_at 19 rfl rfl, ⟨TX8, 22, rfl⟩, Or.inl (Tb_at 814 rfl rfl)⟩
set_option maxRecDepth 20000 in
theorem mLV_ok_99 : VOK mprog (mown 8) 147 129 1 8 := ⟨⟨"ZigzagPiecesModel", "item", "()I"⟩, prog_10_method_31_code, 6, (some .int), k_M_item, 0, rfl, rfl, by decide +kernel, Tb_at 812 rfl rfl, Tb_at 18 rfl rfl, ⟨TX8, 22, rfl⟩, Or.inl (Tb_at 810 rfl rfl)⟩
set_option maxRecDepth 20000 in
theorem mLV_ok_100 : VOK mprog (mown 8) 150 130 1 8 := ⟨⟨"ZigzagPiecesModel", "reads", "()I"⟩, prog_10_method_32_code, 3, (some .int), k_M_reads, 0, rfl, rfl, by decide +kernel, Tb_at 804 rfl rfl, Tb_at 16 rfl rfl, ⟨TX8, 22, rfl⟩, Or.inl (Tb_at 802 rfl rfl)⟩
set_option maxRecDepth 20000 in
theorem mLV_ok_101 : VOK mprog (mown 8) 156 133 1 8 := ⟨⟨"ZigzagPiecesModel", "notes", "()V"⟩, prog_10_method_35_code, 2, none, k_M_notes, 0, rfl, rfl, by decide +kernel, Tb_at 895 rfl rfl, Tb_at 33 rfl rfl, ⟨TX8, 22, rfl⟩, Or.inl (Tb_at 893 rfl rfl)⟩
set_option maxRecDepth 20000 in
theorem mLV_ok_102 : VOK mprog (mown 8) 162 122 1 8 := ⟨⟨"ZigzagPiecesModel", "runsAll", "()Z"⟩, prog_10_method_24_code, 5, (some .boolean), k_M_runsAll, 0, rfl, rfl, by decide +kernel, Tb_at 907 rfl rfl, Tb_at 34 rfl rfl, ⟨TX8, 22, rfl⟩, Or.inl (Tb_at 905 rfl rfl)⟩
set_option maxRecDepth 20000 in
theorem mLV_ok_103 : VOK mprog (mown 8) 166 136 1 8 := ⟨⟨"ZigzagPiecesModel", "sets", "()V"⟩, prog_10_method_38_code, 2, none, k_M_sets, 0, rfl, rfl, by decide +kernel, Tb_at 915 rfl rfl, Tb_at 36 rfl rfl, ⟨TX8, 22, rfl⟩, Or.inl (Tb_at 913 rfl rfl)⟩
set_option maxRecDepth 20000 in
theorem mLV_ok_104 : VOK mprog (mown 8) 169 138 2 8 := ⟨⟨"ZigzagPiecesModel", "swaps", "(I)V"⟩, prog_10_method_40_code, 3, none, k_M_swaps, 1, rfl, rfl, by decide +kernel, Tb_at 919 rfl rfl, Tb_at 37 rfl rfl, ⟨TX8, 22, rfl⟩, Or.inl (Tb_at 917 rfl rfl)⟩
set_option maxRecDepth 20000 in
theorem mLV_ok_105 : VOK mprog (mown 8) 173 137 1 8 := ⟨⟨"ZigzagPiecesModel", "others", "()I"⟩, prog_10_method_39_code, 5, (some .int), k_M_others, 0, rfl, rfl, by decide +kernel, Tb_at 923 rfl rfl, Tb_at 38 rfl rfl, ⟨TX8, 22, rfl⟩, Or.inl (Tb_at 921 rfl rfl)⟩
set_option maxRecDepth 20000 in
theorem mLV_ok_106 : VOK mprog (mown 8) 176 125 1 8 := ⟨⟨"ZigzagPiecesModel", "edges", "()I"⟩, prog_10_method_27_code, 3, (some .int), k_M_edges, 0, rfl, rfl, by decide +kernel, Tb_at 935 rfl rfl, Tb_at 39 rfl rfl, ⟨TX8, 22, rfl⟩, Or.inl (Tb_at 933 rfl rfl)⟩
set_option maxRecDepth 20000 in
theorem mLV_ok_107 : VOK mprog (mown 8) 179 143 3 8 := ⟨⟨"ZigzagPiecesModel", "letterOf", "(II)I"⟩, prog_10_method_45_code, 4, (some .int), k_M_letterOf, 2, rfl, rfl, by decide +kernel, Tb_at 950 rfl rfl, Tb_at 40 rfl rfl, ⟨TX8, 22, rfl⟩, Or.inl (Tb_at 948 rfl rfl)⟩
set_option maxRecDepth 20000 in
theorem mLV_ok_108 : VOK mprog (mown 8) 182 150 1 8 := ⟨⟨"ZigzagPiecesModel", "open", "()I"⟩, prog_10_method_52_code, 3, (some .int), k_M_open, 0, rfl, rfl, by decide +kernel, Tb_at 978 rfl rfl, Tb_at 41 rfl rfl, ⟨TX8, 22, rfl⟩, Or.inl (Tb_at 976 rfl rfl)⟩
set_option maxRecDepth 20000 in
theorem mLV_ok_109 : VOK mprog (mown 8) 185 123 2 8 := ⟨⟨"ZigzagPiecesModel", "lengthOf", "(I)I"⟩, prog_10_method_25_code, 2, (some .int), k_M_lengthOf, 1, rfl, rfl, by decide +kernel, Tb_at 982 rfl rfl, Tb_at 42 rfl rfl, ⟨TX8, 22, rfl⟩, Or.inl (Tb_at 980 rfl rfl)⟩
set_option maxRecDepth 20000 in
theorem mLV_ok_110 : VOK mprog (mown 8) 188 154 1 8 := ⟨⟨"ZigzagPiecesModel", "longest", "()I"⟩, prog_10_method_56_code, 3, (some .int), k_M_longest, 0, rfl, rfl, by decide +kernel, Tb_at 998 rfl rfl, Tb_at 43 rfl rfl, ⟨TX8, 22, rfl⟩, Or.inl (Tb_at 996 rfl rfl)⟩
set_option maxRecDepth 20000 in
theorem mLV_ok_111 : VOK mprog (mown 8) 194 157 1 8 := ⟨⟨"ZigzagPiecesModel", "turnsOver", "()V"⟩, prog_10_method_59_code, 3, none, k_M_turnsOver, 0, rfl, rfl, by decide +kernel, Tb_at 1010 rfl rfl, Tb_at 44 rfl rfl, ⟨TX8, 22, rfl⟩, Or.inl (Tb_at 1008 rfl rfl)⟩
theorem mLV_ok : ∀ q ∈ mLV, VOK mprog (mown q.1) q.2.1 q.2.2.1 q.2.2.2.1 q.2.2.2.2 := List.forall_mem_cons.mpr ⟨mLV_ok_0, List.forall_mem_cons.mpr ⟨mLV_ok_1, List.forall_mem_cons.mpr ⟨mLV_ok_2, List.forall_mem_cons.mpr ⟨mLV_ok_3, List.forall_mem_cons.mpr ⟨mLV_ok_4, List.forall_mem_cons.mpr ⟨mLV_ok_5, List.forall_mem_cons.mpr ⟨mLV_ok_6, List.forall_mem_cons.mpr ⟨mLV_ok_7, List.forall_mem_cons.mpr ⟨mLV_ok_8, List.forall_mem_cons.mpr ⟨mLV_ok_9, List.forall_mem_cons.mpr ⟨mLV_ok_10, List.forall_mem_cons.mpr ⟨mLV_ok_11, List.forall_mem_cons.mpr ⟨mLV_ok_12, List.forall_mem_cons.mpr ⟨mLV_ok_13, List.forall_mem_cons.mpr ⟨mLV_ok_14, List.forall_mem_cons.mpr ⟨mLV_ok_15, List.forall_mem_cons.mpr ⟨mLV_ok_16, List.forall_mem_cons.mpr ⟨mLV_ok_17, List.forall_mem_cons.mpr ⟨mLV_ok_18, List.forall_mem_cons.mpr ⟨mLV_ok_19, List.forall_mem_cons.mpr ⟨mLV_ok_20, List.forall_mem_cons.mpr ⟨mLV_ok_21, List.forall_mem_cons.mpr ⟨mLV_ok_22, List.forall_mem_cons.mpr ⟨mLV_ok_23, List.forall_mem_cons.mpr ⟨mLV_ok_24, List.forall_mem_cons.mpr ⟨mLV_ok_25, List.forall_mem_cons.mpr ⟨mLV_ok_26, List.forall_mem_cons.mpr ⟨mLV_ok_27, List.forall_mem_cons.mpr ⟨mLV_ok_28, List.forall_mem_cons.mpr ⟨mLV_ok_29, List.forall_mem_cons.mpr ⟨mLV_ok_30, List.forall_mem_cons.mpr ⟨mLV_ok_31, List.forall_mem_cons.mpr ⟨mLV_ok_32, List.forall_mem_cons.mpr ⟨mLV_ok_33, List.forall_mem_cons.mpr ⟨mLV_ok_34, List.forall_mem_cons.mpr ⟨mLV_ok_35, List.forall_mem_cons.mpr ⟨mLV_ok_36, List.forall_mem_cons.mpr ⟨mLV_ok_37, List.forall_mem_cons.mpr ⟨mLV_ok_38, List.forall_mem_cons.mpr ⟨mLV_ok_39, List.forall_mem_cons.mpr ⟨mLV_ok_40, List.forall_mem_cons.mpr ⟨mLV_ok_41, List.forall_mem_cons.mpr ⟨mLV_ok_42, List.forall_mem_cons.mpr ⟨mLV_ok_43, List.forall_mem_cons.mpr ⟨mLV_ok_44, List.forall_mem_cons.mpr ⟨mLV_ok_45, List.forall_mem_cons.mpr ⟨mLV_ok_46, List.forall_mem_cons.mpr ⟨mLV_ok_47, List.forall_mem_cons.mpr ⟨mLV_ok_48, List.forall_mem_cons.mpr ⟨mLV_ok_49, List.forall_mem_cons.mpr ⟨mLV_ok_50, List.forall_mem_cons.mpr ⟨mLV_ok_51, List.forall_mem_cons.mpr ⟨mLV_ok_52, List.forall_mem_cons.mpr ⟨mLV_ok_53, List.forall_mem_cons.mpr ⟨mLV_ok_54, List.forall_mem_cons.mpr ⟨mLV_ok_55, List.forall_mem_cons.mpr ⟨mLV_ok_56, List.forall_mem_cons.mpr ⟨mLV_ok_57, List.forall_mem_cons.mpr ⟨mLV_ok_58, List.forall_mem_cons.mpr ⟨mLV_ok_59, List.forall_mem_cons.mpr ⟨mLV_ok_60, List.forall_mem_cons.mpr ⟨mLV_ok_61, List.forall_mem_cons.mpr ⟨mLV_ok_62, List.forall_mem_cons.mpr ⟨mLV_ok_63, List.forall_mem_cons.mpr ⟨mLV_ok_64, List.forall_mem_cons.mpr ⟨mLV_ok_65, List.forall_mem_cons.mpr ⟨mLV_ok_66, List.forall_mem_cons.mpr ⟨mLV_ok_67, List.forall_mem_cons.mpr ⟨mLV_ok_68, List.forall_mem_cons.mpr ⟨mLV_ok_69, List.forall_mem_cons.mpr ⟨mLV_ok_70, List.forall_mem_cons.mpr ⟨mLV_ok_71, List.forall_mem_cons.mpr ⟨mLV_ok_72, List.forall_mem_cons.mpr ⟨mLV_ok_73, List.forall_mem_cons.mpr ⟨mLV_ok_74, List.forall_mem_cons.mpr ⟨mLV_ok_75, List.forall_mem_cons.mpr ⟨mLV_ok_76, List.forall_mem_cons.mpr ⟨mLV_ok_77, List.forall_mem_cons.mpr ⟨mLV_ok_78, List.forall_mem_cons.mpr ⟨mLV_ok_79, List.forall_mem_cons.mpr ⟨mLV_ok_80, List.forall_mem_cons.mpr ⟨mLV_ok_81, List.forall_mem_cons.mpr ⟨mLV_ok_82, List.forall_mem_cons.mpr ⟨mLV_ok_83, List.forall_mem_cons.mpr ⟨mLV_ok_84, List.forall_mem_cons.mpr ⟨mLV_ok_85, List.forall_mem_cons.mpr ⟨mLV_ok_86, List.forall_mem_cons.mpr ⟨mLV_ok_87, List.forall_mem_cons.mpr ⟨mLV_ok_88, List.forall_mem_cons.mpr ⟨mLV_ok_89, List.forall_mem_cons.mpr ⟨mLV_ok_90, List.forall_mem_cons.mpr ⟨mLV_ok_91, List.forall_mem_cons.mpr ⟨mLV_ok_92, List.forall_mem_cons.mpr ⟨mLV_ok_93, List.forall_mem_cons.mpr ⟨mLV_ok_94, List.forall_mem_cons.mpr ⟨mLV_ok_95, List.forall_mem_cons.mpr ⟨mLV_ok_96, List.forall_mem_cons.mpr ⟨mLV_ok_97, List.forall_mem_cons.mpr ⟨mLV_ok_98, List.forall_mem_cons.mpr ⟨mLV_ok_99, List.forall_mem_cons.mpr ⟨mLV_ok_100, List.forall_mem_cons.mpr ⟨mLV_ok_101, List.forall_mem_cons.mpr ⟨mLV_ok_102, List.forall_mem_cons.mpr ⟨mLV_ok_103, List.forall_mem_cons.mpr ⟨mLV_ok_104, List.forall_mem_cons.mpr ⟨mLV_ok_105, List.forall_mem_cons.mpr ⟨mLV_ok_106, List.forall_mem_cons.mpr ⟨mLV_ok_107, List.forall_mem_cons.mpr ⟨mLV_ok_108, List.forall_mem_cons.mpr ⟨mLV_ok_109, List.forall_mem_cons.mpr ⟨mLV_ok_110, List.forall_mem_cons.mpr ⟨mLV_ok_111, fun _ h => absurd h List.not_mem_nil⟩⟩⟩⟩⟩⟩⟩⟩⟩⟩⟩⟩⟩⟩⟩⟩⟩⟩⟩⟩⟩⟩⟩⟩⟩⟩⟩⟩⟩⟩⟩⟩⟩⟩⟩⟩⟩⟩⟩⟩⟩⟩⟩⟩⟩⟩⟩⟩⟩⟩⟩⟩⟩⟩⟩⟩⟩⟩⟩⟩⟩⟩⟩⟩⟩⟩⟩⟩⟩⟩⟩⟩⟩⟩⟩⟩⟩⟩⟩⟩⟩⟩⟩⟩⟩⟩⟩⟩⟩⟩⟩⟩⟩⟩⟩⟩⟩⟩⟩⟩⟩⟩⟩⟩⟩⟩⟩⟩⟩⟩⟩⟩
set_option maxRecDepth 20000 in
theorem mLC_ok_0 : Cond.constant (mown 9) 264 (nI 65536) ∈ Tb := Tb_at 390 rfl rfl
set_option maxRecDepth 20000 in
theorem mLC_ok_1 : Cond.constant (mown 9) 265 (nI 1431655765) ∈ Tb := Tb_at 578 rfl rfl
set_option maxRecDepth 20000 in
theorem mLC_ok_2 : Cond.constant (mown 9) 266 (nI 858993459) ∈ Tb := Tb_at 579 rfl rfl
set_option maxRecDepth 20000 in
theorem mLC_ok_3 : Cond.constant (mown 9) 267 (nI 252645135) ∈ Tb := Tb_at 580 rfl rfl
theorem mLC_ok : ∀ q ∈ mLC, Cond.constant (mown q.1) q.2.1 (nI q.2.2) ∈ Tb := List.forall_mem_cons.mpr ⟨mLC_ok_0, List.forall_mem_cons.mpr ⟨mLC_ok_1, List.forall_mem_cons.mpr ⟨mLC_ok_2, List.forall_mem_cons.mpr ⟨mLC_ok_3, fun _ h => absurd h List.not_mem_nil⟩⟩⟩⟩
theorem lkB_ok {o pc : Nat} {e : mE} (h : lkB o pc e = true) : lkOK mprog (mown o) pc e := by
  obtain ⟨i, nx, x, y, z⟩ := e
  cases i with
  | getfield idx => exact mLF_ok (o, idx, x, y) (of_decide_eq_true h)
  | putfield idx => exact mLP_ok (o, idx, x, y) (of_decide_eq_true h)
  | invokestatic idx => exact mLS_ok (o, idx, x, y, z) (of_decide_eq_true h)
  | invokevirtual idx => exact mLV_ok (o, idx, x, y, z) (of_decide_eq_true h)
  | ldc_w idx => exact mLC_ok (o, idx, x) (of_decide_eq_true h)
  | goto f => exact of_decide_eq_true (p := (pc : Int) + f = (x : Int)) h
  | ifCond _ f => exact of_decide_eq_true (p := (pc : Int) + f = (x : Int)) h
  | if_icmp _ f => exact of_decide_eq_true (p := (pc : Int) + f = (x : Int)) h
  | ifnull f => exact of_decide_eq_true (p := (pc : Int) + f = (x : Int)) h
  | ifnonnull f => exact of_decide_eq_true (p := (pc : Int) + f = (x : Int)) h
  | tableswitch d lo hi offs => exact of_decide_eq_true (p := 0 ≤ (pc : Int) + d ∧ hi - lo + 1 = (offs.size : Int) ∧ ∀ f ∈ offs.toList, 0 ≤ (pc : Int) + f) h
  | lookupswitch d ps => exact of_decide_eq_true (p := 0 ≤ (pc : Int) + d ∧ (ps.toList.zip (ps.toList.drop 1)).all (fun (a, next) => a.1 < next.1) = true ∧ ∀ q ∈ ps.toList, 0 ≤ (pc : Int) + q.2) h
  | _ => exact trivial
theorem chkB_ok {b : ByteArray} {o : Nat} {q : Nat × mE} (h : chkB b o q = true) : insOK mprog (mown o) b q.1 q.2 := by
  unfold chkB at h
  rw [Bool.and_eq_true] at h
  obtain ⟨h1, h2⟩ := h
  refine ⟨?_, lkB_ok h2⟩
  split at h1
  next i len hd =>
    simp only [Bool.and_eq_true, decide_eq_true_eq] at h1
    obtain ⟨⟨g1, g2⟩, g3⟩ := h1
    subst g1
    exact ⟨len, hd, Nat.eq_of_beq_eq_true g2, ilB_ok g3⟩
  next => cases h1
theorem mOK_of {q : mM} (o : Nat) (hc : Cond.code q.1 q.2.1 q.2.2.1 q.2.2.2.1 ∈ Tb) (hi : Cond.initialized q.1.cls ∈ Tb) (hp : plainName q.1.cls = true) (hm : q.1.cls ≠ "java/lang/invoke/MethodHandle" ∧ q.1.cls ≠ "java/lang/invoke/VarHandle") (hl : q.2.2.1 ≤ 11) (ho : q.1.cls = mown o) (hk : q.2.2.2.2.all (chkB q.2.1 o) = true) : mOK mprog q :=
  ⟨hc, hi, hp, hm.1, hm.2, hl, fun z hz => by rw [ho]; exact chkB_ok (List.all_eq_true.mp hk z hz)⟩
