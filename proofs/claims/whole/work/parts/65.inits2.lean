/-! constructors: stories, shelves, the reference -/
def R_Story0 (cy : Nat → Nat) (h0 : Nat) (w : va_W) : Prop := ∃ q0 q1 q2 q3 q4 q5 q6 q7 q8 q9 : Nat, w = [(h0, .inr (5, [.ref q0, .ref q2, .ref q7])), (q0, .inr (2, [.ref q1, .int 0, .int 0])), (q1, .inl (cy 0, 9, .inl (fun _ => 0))), (q2, .inr (1, [.ref q3, .ref q4, .ref q5, .ref q6])), (q3, .inl (cy 0, 9, .inl (fun _ => 0))), (q4, .inl (cy 0, 81, .inl (fun _ => 0))), (q5, .inl (cy 0, 9, .inl (fun _ => 0))), (q6, .inl (cy 0, 9, .inl (fun _ => 0))), (q7, .inr (0, [.ref q8, .ref q9, .int 0, .int 0])), (q8, .inl (cy 0, 40, .inl (fun _ => 0))), (q9, .inl (cy 0, 40, .inl (fun _ => 0)))]
theorem dn_iStory_0 : decode prog_7_method_1_code 0 = .ok (.aload_n 0, 1) := by decide +kernel
theorem dn_iStory_1 : decode prog_7_method_1_code 1 = .ok (.invokespecial 3, 3) := by decide +kernel
theorem dn_iStory_4 : decode prog_7_method_1_code 4 = .ok (.aload_n 0, 1) := by decide +kernel
theorem dn_iStory_5 : decode prog_7_method_1_code 5 = .ok (.new 9, 3) := by decide +kernel
theorem dn_iStory_8 : decode prog_7_method_1_code 8 = .ok (.dup, 1) := by decide +kernel
theorem dn_iStory_9 : decode prog_7_method_1_code 9 = .ok (.invokespecial 11, 3) := by decide +kernel
theorem dn_iStory_12 : decode prog_7_method_1_code 12 = .ok (.putfield 12, 3) := by decide +kernel
theorem dn_iStory_15 : decode prog_7_method_1_code 15 = .ok (.aload_n 0, 1) := by decide +kernel
theorem dn_iStory_16 : decode prog_7_method_1_code 16 = .ok (.new 18, 3) := by decide +kernel
theorem dn_iStory_19 : decode prog_7_method_1_code 19 = .ok (.dup, 1) := by decide +kernel
theorem dn_iStory_20 : decode prog_7_method_1_code 20 = .ok (.invokespecial 20, 3) := by decide +kernel
theorem dn_iStory_23 : decode prog_7_method_1_code 23 = .ok (.putfield 21, 3) := by decide +kernel
theorem dn_iStory_26 : decode prog_7_method_1_code 26 = .ok (.aload_n 0, 1) := by decide +kernel
theorem dn_iStory_27 : decode prog_7_method_1_code 27 = .ok (.new 25, 3) := by decide +kernel
theorem dn_iStory_30 : decode prog_7_method_1_code 30 = .ok (.dup, 1) := by decide +kernel
theorem dn_iStory_31 : decode prog_7_method_1_code 31 = .ok (.invokespecial 27, 3) := by decide +kernel
theorem dn_iStory_34 : decode prog_7_method_1_code 34 = .ok (.putfield 28, 3) := by decide +kernel
theorem dn_iStory_37 : decode prog_7_method_1_code 37 = .ok (.return_, 1) := by decide +kernel
set_option maxHeartbeats 4000000 in
set_option maxRecDepth 100000 in
theorem n_iStory (l : Launch) (D : va_G) (cy : Nat → Nat) (h0 sz : Nat) : Met l ⟨"ZigzagPieces$Story", "<init>", "()V"⟩ (.code ⟨"ZigzagPieces$Story", "<init>", "()V"⟩ prog_7_method_1_code 1 none :: Tb) ({ frames := 2, cells := 10, slots := 208, locals := 60 }) (nPc D cy [.ref h0] [(h0, .inr (5, [.null, .null, .null]))] sz) (va_Qv (R_Story0 cy h0) (nB D cy (va_A [(h0, .inr (5, [.null, .null, .null]))] sz)) (va_A [(h0, .inr (5, [.null, .null, .null]))] sz)) 10 208 (va_A [(h0, .inr (5, [.null, .null, .null]))] sz) := by
  refine Met.ofW (cc := prog_7_method_1_code) (maxL := 1) (ret := none) (by decide) rfl ?_
  intro p e s m args below meth c s₁ B hml hv
  obtain ⟨rfl, hsz, hP, hK, hD0, hN, hAO⟩ := hv
  have hx := B.exec
  have hb := B.bytes
  have hr := B.returns
  have hts0 := atoms_spec (ws := (.code ⟨"ZigzagPieces$Story", "<init>", "()V"⟩ prog_7_method_1_code 1 none :: Tb)) B.pre
  have hts : ∀ w ∈ Tb, w.before _ s = true := fun w hw => hts0 w (List.mem_cons_of_mem _ hw)
  have hown : s.vm.findClass RX5 = some m.cls := findClass_of_methodNamed B.named
  have hlocks := B.notSynchronized
  have hin : meth.name = "<init>" := (name_of_methodNamed B.named B.method).1
  subst hsz
  have hD := hD0.self (sz := s.heap.size)
  generalize hAe : va_A [(h0, .inr (5, [.null, .null, .null]))] s.heap.size = A at hD ⊢
  have hA : ∀ q : Nat, s.heap.size ≤ q → A q := fun q h => by rw [← hAe]; exact Or.inr h
  have hS : va_S A s.heap s.heap [] := va_S.rf
  have hl := lv_entry ([.ref h0]) (n := 1) (Nat.le_of_ble_eq_true rfl)
  rw [lg_entry_eq]
  generalize (lg_sl ([.ref h0]) ++ List.replicate (1 - (lg_sl ([.ref h0])).length) Slot.unset).toArray = ls at hl ⊢
  have hl : lv_has ls 1 [(0, .ref h0)] := hl
  have hP : va_P D mcl ((h0, .inr (5, [.null, .null, .null])) :: []) _ := hP
  have hD : va_D A ((h0, .inr (5, [.null, .null, .null])) :: []) := hD
  refine lv_aload_n hx hb dn_iStory_0 rfl (lv_at hl 0 rfl) ?_
  refine W.objInit hx hb hown (hts (.methodLink RX5 3 objectInit) (Tb_at 121 rfl rfl)) (hts (.instanceMethod objectInit) (Tb_at 68 rfl rfl)) (hts _ (Tb_at 69 rfl rfl)) rfl (by rw [hml]; exact hl.1) rfl dn_iStory_1 (Nat.le_of_ble_eq_true rfl) (Nat.le_of_ble_eq_true rfl) ?_
  refine W.eq (g2 := F0 m 4 ls []) rfl ?_
  refine lv_aload_n hx hb dn_iStory_4 rfl (lv_at hl 0 rfl) ?_
  refine va_new (ci := 2) (fs := [.null, .int 0, .int 0]) (C := RX2) (T := TX2) (N := 3) hx hb hts inX2 tyX2 tyX2_ok hown (hts (.classLink RX5 9 RX2) (Tb_at 122 rfl rfl)) (hts (.instantiable RX2 3) (Tb_at 123 rfl rfl)) (hts (.initialized RX2) (Tb_at 52 rfl rfl)) hK hP hD hS hA rfl (fun j hj => by rcases (show j = 0 ∨ j = 1 ∨ j = 2 by omega) with rfl | rfl | rfl <;> rfl) (Nat.le_of_ble_eq_true rfl) (Nat.le_of_ble_eq_true rfl) dn_iStory_5 (fun q1 H hP hD hS => ?_)
  have hP : va_P D mcl ((h0, .inr (5, [.null, .null, .null])) :: ([] ++ [(q1, .inr (2, [.null, .int 0, .int 0]))])) _ := hP
  have hD : va_D A ((h0, .inr (5, [.null, .null, .null])) :: ([] ++ [(q1, .inr (2, [.null, .int 0, .int 0]))])) := hD
  refine W.widen (k := 1) (n := 3) (Nat.le_of_ble_eq_true rfl) (Nat.le_of_ble_eq_true rfl) ?_
  refine lv_dup hx hb dn_iStory_8 rfl ?_
  have hP : va_P D mcl (((h0, .inr (5, [.null, .null, .null])) :: []) ++ [(q1, .inr (2, [.null, .int 0, .int 0]))]) _ := hP
  have hD : va_D A (((h0, .inr (5, [.null, .null, .null])) :: []) ++ [(q1, .inr (2, [.null, .int 0, .int 0]))]) := hD
  have hFc := new_free hD hS hA
  refine new_call hP hD hS hA hFc (va_runIN (cc := prog_7_method_1_code) (nL := 1) (Ts := Tb) (own := RX5) (bytes := prog_4_method_1_code) (maxL := 1) (As := []) (rest := [.ref q1, .ref h0]) ⟨hx, hb, hml, hown, hts⟩ (n_iNet l D cy q1 _ ) ⟨va_cnB 0 hts (mGood (Tb_at 126 rfl rfl)) rfl rfl rfl (hN _ (Nb_at 124 rfl rfl)) (hts (.initialized RX2) (Tb_at 52 rfl rfl)) ⟨by decide, by decide, by decide +kernel⟩ ⟨Nat.le_of_ble_eq_true rfl, Nat.le_of_ble_eq_true rfl⟩, rfl, hts _ (Tb_at 125 rfl rfl)⟩ ⟨nPc_blind, new_pre hP hD hK hN hAO⟩ rfl rfl hl.1 rfl (lv_room (Nat.le_of_ble_eq_true rfl)) dn_iStory_9 ⟨Nat.le_of_ble_eq_true rfl, Nat.le_of_ble_eq_true rfl⟩) ?_
  intro w2 H locs hRw2 hP hD hS
  obtain ⟨r3, rfl⟩ := hRw2
  have hP : va_P D mcl ((h0, .inr (5, [.null, .null, .null])) :: ([] ++ [(q1, .inr (2, [.ref r3, .int 0, .int 0])), (r3, .inl (cy 0, 9, .inl (fun _ => 0)))])) _ := hP
  have hD : va_D A ((h0, .inr (5, [.null, .null, .null])) :: ([] ++ [(q1, .inr (2, [.ref r3, .int 0, .int 0])), (r3, .inl (cy 0, 9, .inl (fun _ => 0)))])) := hD
  refine W.widen (k := 2) (n := 12) (Nat.le_of_ble_eq_true rfl) (Nat.le_of_ble_eq_true rfl) ?_
  refine va_putF (D := D) (ci := 5) (v := .ref q1) (ty := .object "ZigzagPieces$Net") (C := RX5) (T := TX5) (N := 3) hx hb hts inX5 tyX5 tyX5_ok nmX5 hown hK hP hD hS 0 rfl rfl 0 (by decide) (hts (.fieldLink RX5 12 "ZigzagPieces$Story" "net" "LZigzagPieces$Net;") (Tb_at 176 rfl rfl)) (fun _ h9 => h9) rfl hin rfl (by decide +kernel) rfl rfl (Nat.le_of_ble_eq_true rfl) dn_iStory_12 (fun H locs hP hD hS => ?_)
  have hP : va_P D mcl ((h0, .inr (5, [.ref q1, .null, .null])) :: ([] ++ [(q1, .inr (2, [.ref r3, .int 0, .int 0])), (r3, .inl (cy 0, 9, .inl (fun _ => 0)))])) _ := hP
  have hD : va_D A ((h0, .inr (5, [.ref q1, .null, .null])) :: ([] ++ [(q1, .inr (2, [.ref r3, .int 0, .int 0])), (r3, .inl (cy 0, 9, .inl (fun _ => 0)))])) := hD
  refine lv_aload_n hx hb dn_iStory_15 rfl (lv_at hl 0 rfl) ?_
  refine va_new (ci := 1) (fs := [.null, .null, .null, .null]) (C := RX1) (T := TX1) (N := 4) hx hb hts inX1 tyX1 tyX1_ok hown (hts (.classLink RX5 18 RX1) (Tb_at 138 rfl rfl)) (hts (.instantiable RX1 4) (Tb_at 139 rfl rfl)) (hts (.initialized RX1) (Tb_at 53 rfl rfl)) hK hP hD hS hA rfl (fun j hj => by rcases (show j = 0 ∨ j = 1 ∨ j = 2 ∨ j = 3 by omega) with rfl | rfl | rfl | rfl <;> rfl) (Nat.le_of_ble_eq_true rfl) (Nat.le_of_ble_eq_true rfl) dn_iStory_16 (fun q4 H hP hD hS => ?_)
  have hP : va_P D mcl ((h0, .inr (5, [.ref q1, .null, .null])) :: (([] ++ [(q1, .inr (2, [.ref r3, .int 0, .int 0])), (r3, .inl (cy 0, 9, .inl (fun _ => 0)))]) ++ [(q4, .inr (1, [.null, .null, .null, .null]))])) _ := hP
  have hD : va_D A ((h0, .inr (5, [.ref q1, .null, .null])) :: (([] ++ [(q1, .inr (2, [.ref r3, .int 0, .int 0])), (r3, .inl (cy 0, 9, .inl (fun _ => 0)))]) ++ [(q4, .inr (1, [.null, .null, .null, .null]))])) := hD
  refine W.widen (k := 3) (n := 16) (Nat.le_of_ble_eq_true rfl) (Nat.le_of_ble_eq_true rfl) ?_
  refine lv_dup hx hb dn_iStory_19 rfl ?_
  have hP : va_P D mcl (((h0, .inr (5, [.ref q1, .null, .null])) :: ([] ++ [(q1, .inr (2, [.ref r3, .int 0, .int 0])), (r3, .inl (cy 0, 9, .inl (fun _ => 0)))])) ++ [(q4, .inr (1, [.null, .null, .null, .null]))]) _ := hP
  have hD : va_D A (((h0, .inr (5, [.ref q1, .null, .null])) :: ([] ++ [(q1, .inr (2, [.ref r3, .int 0, .int 0])), (r3, .inl (cy 0, 9, .inl (fun _ => 0)))])) ++ [(q4, .inr (1, [.null, .null, .null, .null]))]) := hD
  have hFc := new_free hD hS hA
  refine new_call hP hD hS hA hFc (va_runIN (cc := prog_7_method_1_code) (nL := 1) (Ts := Tb) (own := RX5) (bytes := prog_3_method_1_code) (maxL := 1) (As := []) (rest := [.ref q4, .ref h0]) ⟨hx, hb, hml, hown, hts⟩ (n_iKin l D cy q4 _ ) ⟨va_cnB 0 hts (mGood (Tb_at 142 rfl rfl)) rfl rfl rfl (hN _ (Nb_at 140 rfl rfl)) (hts (.initialized RX1) (Tb_at 53 rfl rfl)) ⟨by decide, by decide, by decide +kernel⟩ ⟨Nat.le_of_ble_eq_true rfl, Nat.le_of_ble_eq_true rfl⟩, rfl, hts _ (Tb_at 141 rfl rfl)⟩ ⟨nPc_blind, new_pre hP hD hK hN hAO⟩ rfl rfl hl.1 rfl (lv_room (Nat.le_of_ble_eq_true rfl)) dn_iStory_20 ⟨Nat.le_of_ble_eq_true rfl, Nat.le_of_ble_eq_true rfl⟩) ?_
  intro w5 H locs hRw5 hP hD hS
  obtain ⟨r6, r7, r8, r9, rfl⟩ := hRw5
  have hP : va_P D mcl ((h0, .inr (5, [.ref q1, .null, .null])) :: (([] ++ [(q1, .inr (2, [.ref r3, .int 0, .int 0])), (r3, .inl (cy 0, 9, .inl (fun _ => 0)))]) ++ [(q4, .inr (1, [.ref r6, .ref r7, .ref r8, .ref r9])), (r6, .inl (cy 0, 9, .inl (fun _ => 0))), (r7, .inl (cy 0, 81, .inl (fun _ => 0))), (r8, .inl (cy 0, 9, .inl (fun _ => 0))), (r9, .inl (cy 0, 9, .inl (fun _ => 0)))])) _ := hP
  have hD : va_D A ((h0, .inr (5, [.ref q1, .null, .null])) :: (([] ++ [(q1, .inr (2, [.ref r3, .int 0, .int 0])), (r3, .inl (cy 0, 9, .inl (fun _ => 0)))]) ++ [(q4, .inr (1, [.ref r6, .ref r7, .ref r8, .ref r9])), (r6, .inl (cy 0, 9, .inl (fun _ => 0))), (r7, .inl (cy 0, 81, .inl (fun _ => 0))), (r8, .inl (cy 0, 9, .inl (fun _ => 0))), (r9, .inl (cy 0, 9, .inl (fun _ => 0)))])) := hD
  refine W.widen (k := 7) (n := 124) (Nat.le_of_ble_eq_true rfl) (Nat.le_of_ble_eq_true rfl) ?_
  refine va_putF (D := D) (ci := 5) (v := .ref q4) (ty := .object "ZigzagPieces$Kinship") (C := RX5) (T := TX5) (N := 3) hx hb hts inX5 tyX5 tyX5_ok nmX5 hown hK hP hD hS 0 rfl rfl 1 (by decide) (hts (.fieldLink RX5 21 "ZigzagPieces$Story" "kinship" "LZigzagPieces$Kinship;") (Tb_at 178 rfl rfl)) (fun _ h9 => h9) rfl hin rfl (by decide +kernel) rfl rfl (Nat.le_of_ble_eq_true rfl) dn_iStory_23 (fun H locs hP hD hS => ?_)
  have hP : va_P D mcl ((h0, .inr (5, [.ref q1, .ref q4, .null])) :: (([] ++ [(q1, .inr (2, [.ref r3, .int 0, .int 0])), (r3, .inl (cy 0, 9, .inl (fun _ => 0)))]) ++ [(q4, .inr (1, [.ref r6, .ref r7, .ref r8, .ref r9])), (r6, .inl (cy 0, 9, .inl (fun _ => 0))), (r7, .inl (cy 0, 81, .inl (fun _ => 0))), (r8, .inl (cy 0, 9, .inl (fun _ => 0))), (r9, .inl (cy 0, 9, .inl (fun _ => 0)))])) _ := hP
  have hD : va_D A ((h0, .inr (5, [.ref q1, .ref q4, .null])) :: (([] ++ [(q1, .inr (2, [.ref r3, .int 0, .int 0])), (r3, .inl (cy 0, 9, .inl (fun _ => 0)))]) ++ [(q4, .inr (1, [.ref r6, .ref r7, .ref r8, .ref r9])), (r6, .inl (cy 0, 9, .inl (fun _ => 0))), (r7, .inl (cy 0, 81, .inl (fun _ => 0))), (r8, .inl (cy 0, 9, .inl (fun _ => 0))), (r9, .inl (cy 0, 9, .inl (fun _ => 0)))])) := hD
  refine lv_aload_n hx hb dn_iStory_26 rfl (lv_at hl 0 rfl) ?_
  refine va_new (ci := 0) (fs := [.null, .null, .int 0, .int 0]) (C := RX0) (T := TX0) (N := 4) hx hb hts inX0 tyX0 tyX0_ok hown (hts (.classLink RX5 25 RX0) (Tb_at 157 rfl rfl)) (hts (.instantiable RX0 4) (Tb_at 158 rfl rfl)) (hts (.initialized RX0) (Tb_at 54 rfl rfl)) hK hP hD hS hA rfl (fun j hj => by rcases (show j = 0 ∨ j = 1 ∨ j = 2 ∨ j = 3 by omega) with rfl | rfl | rfl | rfl <;> rfl) (Nat.le_of_ble_eq_true rfl) (Nat.le_of_ble_eq_true rfl) dn_iStory_27 (fun q10 H hP hD hS => ?_)
  have hP : va_P D mcl ((h0, .inr (5, [.ref q1, .ref q4, .null])) :: ((([] ++ [(q1, .inr (2, [.ref r3, .int 0, .int 0])), (r3, .inl (cy 0, 9, .inl (fun _ => 0)))]) ++ [(q4, .inr (1, [.ref r6, .ref r7, .ref r8, .ref r9])), (r6, .inl (cy 0, 9, .inl (fun _ => 0))), (r7, .inl (cy 0, 81, .inl (fun _ => 0))), (r8, .inl (cy 0, 9, .inl (fun _ => 0))), (r9, .inl (cy 0, 9, .inl (fun _ => 0)))]) ++ [(q10, .inr (0, [.null, .null, .int 0, .int 0]))])) _ := hP
  have hD : va_D A ((h0, .inr (5, [.ref q1, .ref q4, .null])) :: ((([] ++ [(q1, .inr (2, [.ref r3, .int 0, .int 0])), (r3, .inl (cy 0, 9, .inl (fun _ => 0)))]) ++ [(q4, .inr (1, [.ref r6, .ref r7, .ref r8, .ref r9])), (r6, .inl (cy 0, 9, .inl (fun _ => 0))), (r7, .inl (cy 0, 81, .inl (fun _ => 0))), (r8, .inl (cy 0, 9, .inl (fun _ => 0))), (r9, .inl (cy 0, 9, .inl (fun _ => 0)))]) ++ [(q10, .inr (0, [.null, .null, .int 0, .int 0]))])) := hD
  refine W.widen (k := 8) (n := 128) (Nat.le_of_ble_eq_true rfl) (Nat.le_of_ble_eq_true rfl) ?_
  refine lv_dup hx hb dn_iStory_30 rfl ?_
  have hP : va_P D mcl (((h0, .inr (5, [.ref q1, .ref q4, .null])) :: (([] ++ [(q1, .inr (2, [.ref r3, .int 0, .int 0])), (r3, .inl (cy 0, 9, .inl (fun _ => 0)))]) ++ [(q4, .inr (1, [.ref r6, .ref r7, .ref r8, .ref r9])), (r6, .inl (cy 0, 9, .inl (fun _ => 0))), (r7, .inl (cy 0, 81, .inl (fun _ => 0))), (r8, .inl (cy 0, 9, .inl (fun _ => 0))), (r9, .inl (cy 0, 9, .inl (fun _ => 0)))])) ++ [(q10, .inr (0, [.null, .null, .int 0, .int 0]))]) _ := hP
  have hD : va_D A (((h0, .inr (5, [.ref q1, .ref q4, .null])) :: (([] ++ [(q1, .inr (2, [.ref r3, .int 0, .int 0])), (r3, .inl (cy 0, 9, .inl (fun _ => 0)))]) ++ [(q4, .inr (1, [.ref r6, .ref r7, .ref r8, .ref r9])), (r6, .inl (cy 0, 9, .inl (fun _ => 0))), (r7, .inl (cy 0, 81, .inl (fun _ => 0))), (r8, .inl (cy 0, 9, .inl (fun _ => 0))), (r9, .inl (cy 0, 9, .inl (fun _ => 0)))])) ++ [(q10, .inr (0, [.null, .null, .int 0, .int 0]))]) := hD
  have hFc := new_free hD hS hA
  refine new_call hP hD hS hA hFc (va_runIN (cc := prog_7_method_1_code) (nL := 1) (Ts := Tb) (own := RX5) (bytes := prog_2_method_1_code) (maxL := 1) (As := []) (rest := [.ref q10, .ref h0]) ⟨hx, hb, hml, hown, hts⟩ (n_iBars l D cy q10 _ ) ⟨va_cnB 0 hts (mGood (Tb_at 161 rfl rfl)) rfl rfl rfl (hN _ (Nb_at 159 rfl rfl)) (hts (.initialized RX0) (Tb_at 54 rfl rfl)) ⟨by decide, by decide, by decide +kernel⟩ ⟨Nat.le_of_ble_eq_true rfl, Nat.le_of_ble_eq_true rfl⟩, rfl, hts _ (Tb_at 160 rfl rfl)⟩ ⟨nPc_blind, new_pre hP hD hK hN hAO⟩ rfl rfl hl.1 rfl (lv_room (Nat.le_of_ble_eq_true rfl)) dn_iStory_31 ⟨Nat.le_of_ble_eq_true rfl, Nat.le_of_ble_eq_true rfl⟩) ?_
  intro w11 H locs hRw11 hP hD hS
  obtain ⟨r12, r13, rfl⟩ := hRw11
  have hP : va_P D mcl ((h0, .inr (5, [.ref q1, .ref q4, .null])) :: ((([] ++ [(q1, .inr (2, [.ref r3, .int 0, .int 0])), (r3, .inl (cy 0, 9, .inl (fun _ => 0)))]) ++ [(q4, .inr (1, [.ref r6, .ref r7, .ref r8, .ref r9])), (r6, .inl (cy 0, 9, .inl (fun _ => 0))), (r7, .inl (cy 0, 81, .inl (fun _ => 0))), (r8, .inl (cy 0, 9, .inl (fun _ => 0))), (r9, .inl (cy 0, 9, .inl (fun _ => 0)))]) ++ [(q10, .inr (0, [.ref r12, .ref r13, .int 0, .int 0])), (r12, .inl (cy 0, 40, .inl (fun _ => 0))), (r13, .inl (cy 0, 40, .inl (fun _ => 0)))])) _ := hP
  have hD : va_D A ((h0, .inr (5, [.ref q1, .ref q4, .null])) :: ((([] ++ [(q1, .inr (2, [.ref r3, .int 0, .int 0])), (r3, .inl (cy 0, 9, .inl (fun _ => 0)))]) ++ [(q4, .inr (1, [.ref r6, .ref r7, .ref r8, .ref r9])), (r6, .inl (cy 0, 9, .inl (fun _ => 0))), (r7, .inl (cy 0, 81, .inl (fun _ => 0))), (r8, .inl (cy 0, 9, .inl (fun _ => 0))), (r9, .inl (cy 0, 9, .inl (fun _ => 0)))]) ++ [(q10, .inr (0, [.ref r12, .ref r13, .int 0, .int 0])), (r12, .inl (cy 0, 40, .inl (fun _ => 0))), (r13, .inl (cy 0, 40, .inl (fun _ => 0)))])) := hD
  refine W.widen (k := 10) (n := 208) (Nat.le_of_ble_eq_true rfl) (Nat.le_of_ble_eq_true rfl) ?_
  refine va_putF (D := D) (ci := 5) (v := .ref q10) (ty := .object "ZigzagPieces$Bars") (C := RX5) (T := TX5) (N := 3) hx hb hts inX5 tyX5 tyX5_ok nmX5 hown hK hP hD hS 0 rfl rfl 2 (by decide) (hts (.fieldLink RX5 28 "ZigzagPieces$Story" "bars" "LZigzagPieces$Bars;") (Tb_at 180 rfl rfl)) (fun _ h9 => h9) rfl hin rfl (by decide +kernel) rfl rfl (Nat.le_of_ble_eq_true rfl) dn_iStory_34 (fun H locs hP hD hS => ?_)
  have hP : va_P D mcl ((h0, .inr (5, [.ref q1, .ref q4, .ref q10])) :: ((([] ++ [(q1, .inr (2, [.ref r3, .int 0, .int 0])), (r3, .inl (cy 0, 9, .inl (fun _ => 0)))]) ++ [(q4, .inr (1, [.ref r6, .ref r7, .ref r8, .ref r9])), (r6, .inl (cy 0, 9, .inl (fun _ => 0))), (r7, .inl (cy 0, 81, .inl (fun _ => 0))), (r8, .inl (cy 0, 9, .inl (fun _ => 0))), (r9, .inl (cy 0, 9, .inl (fun _ => 0)))]) ++ [(q10, .inr (0, [.ref r12, .ref r13, .int 0, .int 0])), (r12, .inl (cy 0, 40, .inl (fun _ => 0))), (r13, .inl (cy 0, 40, .inl (fun _ => 0)))])) _ := hP
  have hD : va_D A ((h0, .inr (5, [.ref q1, .ref q4, .ref q10])) :: ((([] ++ [(q1, .inr (2, [.ref r3, .int 0, .int 0])), (r3, .inl (cy 0, 9, .inl (fun _ => 0)))]) ++ [(q4, .inr (1, [.ref r6, .ref r7, .ref r8, .ref r9])), (r6, .inl (cy 0, 9, .inl (fun _ => 0))), (r7, .inl (cy 0, 81, .inl (fun _ => 0))), (r8, .inl (cy 0, 9, .inl (fun _ => 0))), (r9, .inl (cy 0, 9, .inl (fun _ => 0)))]) ++ [(q10, .inr (0, [.ref r12, .ref r13, .int 0, .int 0])), (r12, .inl (cy 0, 40, .inl (fun _ => 0))), (r13, .inl (cy 0, 40, .inl (fun _ => 0)))])) := hD
  refine W.widen (k := 10) (n := 208) (Nat.le_of_ble_eq_true rfl) (Nat.le_of_ble_eq_true rfl) ?_
  exact W.vret hx hb hr (fun t ht hW => ⟨⟨_, rfl, ⟨_, _, _, _, _, _, _, _, _, _, rfl⟩, by rw [ht]; exact hP, va_K.moved hW.alike hK, hD⟩, hS.F ht⟩) hS.2.2 dn_iStory_37
def R_Shelf60 (cy : Nat → Nat) (h0 : Nat) (w : va_W) : Prop := ∃ q0 q1 q2 q3 q4 q5 q6 q7 q8 q9 q10 q11 q12 : Nat, w = [(h0, .inr (4, [.ref q0, .int 0])), (q0, .inl (cy 2, 6, .inr (.inr (.inr (.inr (va_up (va_up (va_up (va_up (va_up (va_up (fun _ => none) (0 : Int32).toNatClampNeg (some q1)) (1 : Int32).toNatClampNeg (some q3)) (2 : Int32).toNatClampNeg (some q5)) (3 : Int32).toNatClampNeg (some q7)) (4 : Int32).toNatClampNeg (some q9)) (5 : Int32).toNatClampNeg (some q11))))))), (q1, .inr (3, [.ref q2, .int 0])), (q2, .inl (cy 0, 40, .inl (fun _ => 0))), (q3, .inr (3, [.ref q4, .int 0])), (q4, .inl (cy 0, 40, .inl (fun _ => 0))), (q5, .inr (3, [.ref q6, .int 0])), (q6, .inl (cy 0, 40, .inl (fun _ => 0))), (q7, .inr (3, [.ref q8, .int 0])), (q8, .inl (cy 0, 40, .inl (fun _ => 0))), (q9, .inr (3, [.ref q10, .int 0])), (q10, .inl (cy 0, 40, .inl (fun _ => 0))), (q11, .inr (3, [.ref q12, .int 0])), (q12, .inl (cy 0, 40, .inl (fun _ => 0)))]
theorem dn_iShelf6_0 : decode prog_6_method_1_code 0 = .ok (.aload_n 0, 1) := by decide +kernel
theorem dn_iShelf6_1 : decode prog_6_method_1_code 1 = .ok (.invokespecial 1, 3) := by decide +kernel
theorem dn_iShelf6_4 : decode prog_6_method_1_code 4 = .ok (.aload_n 0, 1) := by decide +kernel
theorem dn_iShelf6_5 : decode prog_6_method_1_code 5 = .ok (.iload_n 1, 1) := by decide +kernel
theorem dn_iShelf6_6 : decode prog_6_method_1_code 6 = .ok (.iconst 1, 1) := by decide +kernel
theorem dn_iShelf6_7 : decode prog_6_method_1_code 7 = .ok (.invokestatic 7, 3) := by decide +kernel
theorem dn_iShelf6_10 : decode prog_6_method_1_code 10 = .ok (.anewarray 13, 3) := by decide +kernel
theorem dn_iShelf6_13 : decode prog_6_method_1_code 13 = .ok (.putfield 15, 3) := by decide +kernel
theorem dn_iShelf6_16 : decode prog_6_method_1_code 16 = .ok (.iconst 0, 1) := by decide +kernel
theorem dn_iShelf6_17 : decode prog_6_method_1_code 17 = .ok (.istore_n 2, 1) := by decide +kernel
theorem dn_iShelf6_18 : decode prog_6_method_1_code 18 = .ok (.iload_n 2, 1) := by decide +kernel
theorem dn_iShelf6_19 : decode prog_6_method_1_code 19 = .ok (.aload_n 0, 1) := by decide +kernel
theorem dn_iShelf6_20 : decode prog_6_method_1_code 20 = .ok (.getfield 15, 3) := by decide +kernel
theorem dn_iShelf6_23 : decode prog_6_method_1_code 23 = .ok (.arraylength, 1) := by decide +kernel
theorem dn_iShelf6_24 : decode prog_6_method_1_code 24 = .ok (.if_icmp .ge 22, 3) := by decide +kernel
theorem dn_iShelf6_27 : decode prog_6_method_1_code 27 = .ok (.aload_n 0, 1) := by decide +kernel
theorem dn_iShelf6_28 : decode prog_6_method_1_code 28 = .ok (.getfield 15, 3) := by decide +kernel
theorem dn_iShelf6_31 : decode prog_6_method_1_code 31 = .ok (.iload_n 2, 1) := by decide +kernel
theorem dn_iShelf6_32 : decode prog_6_method_1_code 32 = .ok (.new 13, 3) := by decide +kernel
theorem dn_iShelf6_35 : decode prog_6_method_1_code 35 = .ok (.dup, 1) := by decide +kernel
theorem dn_iShelf6_36 : decode prog_6_method_1_code 36 = .ok (.invokespecial 21, 3) := by decide +kernel
theorem dn_iShelf6_39 : decode prog_6_method_1_code 39 = .ok (.aastore, 1) := by decide +kernel
theorem dn_iShelf6_40 : decode prog_6_method_1_code 40 = .ok (.iinc 2 1, 3) := by decide +kernel
theorem dn_iShelf6_43 : decode prog_6_method_1_code 43 = .ok (.goto (-25), 3) := by decide +kernel
theorem dn_iShelf6_46 : decode prog_6_method_1_code 46 = .ok (.return_, 1) := by decide +kernel
set_option maxHeartbeats 4000000 in
set_option maxRecDepth 100000 in
theorem n_iShelf6 (l : Launch) (D : va_G) (cy : Nat → Nat) (h0 sz : Nat) : Met l ⟨"ZigzagPieces$Shelf", "<init>", "(I)V"⟩ (.code ⟨"ZigzagPieces$Shelf", "<init>", "(I)V"⟩ prog_6_method_1_code 3 none :: Tb) ({ frames := 2, cells := 13, slots := 258, locals := 60 }) (nPc D cy [.ref h0, .int 6] [(h0, .inr (4, [.null, .int 0]))] sz) (va_Qv (R_Shelf60 cy h0) (nB D cy (va_A [(h0, .inr (4, [.null, .int 0]))] sz)) (va_A [(h0, .inr (4, [.null, .int 0]))] sz)) 13 258 (va_A [(h0, .inr (4, [.null, .int 0]))] sz) := by
  refine Met.ofW (cc := prog_6_method_1_code) (maxL := 3) (ret := none) (by decide) rfl ?_
  intro p e s m args below meth c s₁ B hml hv
  obtain ⟨rfl, hsz, hP, hK, hD0, hN, hAO⟩ := hv
  have hx := B.exec
  have hb := B.bytes
  have hr := B.returns
  have hts0 := atoms_spec (ws := (.code ⟨"ZigzagPieces$Shelf", "<init>", "(I)V"⟩ prog_6_method_1_code 3 none :: Tb)) B.pre
  have hts : ∀ w ∈ Tb, w.before _ s = true := fun w hw => hts0 w (List.mem_cons_of_mem _ hw)
  have hown : s.vm.findClass RX4 = some m.cls := findClass_of_methodNamed B.named
  have hlocks := B.notSynchronized
  have hin : meth.name = "<init>" := (name_of_methodNamed B.named B.method).1
  subst hsz
  have hD := hD0.self (sz := s.heap.size)
  generalize hAe : va_A [(h0, .inr (4, [.null, .int 0]))] s.heap.size = A at hD ⊢
  have hA : ∀ q : Nat, s.heap.size ≤ q → A q := fun q h => by rw [← hAe]; exact Or.inr h
  have hS : va_S A s.heap s.heap [] := va_S.rf
  have hl := lv_entry ([.ref h0, .int 6]) (n := 3) (Nat.le_of_ble_eq_true rfl)
  rw [lg_entry_eq]
  generalize (lg_sl ([.ref h0, .int 6]) ++ List.replicate (3 - (lg_sl ([.ref h0, .int 6])).length) Slot.unset).toArray = ls at hl ⊢
  have hl : lv_has ls 3 [(0, .ref h0), (1, .int 6)] := hl
  have hP : va_P D mcl ((h0, .inr (4, [.null, .int 0])) :: []) _ := hP
  have hD : va_D A ((h0, .inr (4, [.null, .int 0])) :: []) := hD
  refine lv_aload_n hx hb dn_iShelf6_0 rfl (lv_at hl 0 rfl) ?_
  refine W.objInit hx hb hown (hts (.methodLink RX4 1 objectInit) (Tb_at 102 rfl rfl)) (hts (.instanceMethod objectInit) (Tb_at 68 rfl rfl)) (hts _ (Tb_at 69 rfl rfl)) rfl (by rw [hml]; exact hl.1) rfl dn_iShelf6_1 (Nat.le_of_ble_eq_true rfl) (Nat.le_of_ble_eq_true rfl) ?_
  refine W.eq (g2 := F0 m 4 ls []) rfl ?_
  refine lv_aload_n hx hb dn_iShelf6_4 rfl (lv_at hl 0 rfl) ?_
  refine lv_iload_n hx hb dn_iShelf6_5 rfl (lv_at hl 1 rfl) ?_
  refine lv_iconst (v := 1) hx hb dn_iShelf6_6 (by decide) ?_
  refine va_mmax hx hb (by rw [hml]; exact hl.1.symm) hown (hts _ (Tb_at 103 rfl rfl)) (hts _ (Tb_at 104 rfl rfl)) (hts _ (Tb_at 50 rfl rfl)) (hts _ (Tb_at 105 rfl rfl)) (Nat.le_of_ble_eq_true rfl) (Nat.le_of_ble_eq_true rfl) (Nat.le_of_ble_eq_true rfl) (Nat.le_of_ble_eq_true rfl) dn_iShelf6_7 ?_
  refine W.eq (g2 := F0 m 10 ls [.int 6, .ref h0]) rfl ?_
  refine va_newq hx hb hown (hts (.classLink RX4 13 RX3) (Tb_at 106 rfl rfl)) hAO hK hP hD hS hA (by decide) (N' := 6) (by decide) (by decide) (Nat.le_of_ble_eq_true rfl) (Nat.le_of_ble_eq_true rfl) dn_iShelf6_10 (fun q1 cA H hKn hP hD hS => ?_)
  have ecA : cA = cy 2 := cy_eq2 hK (nK_last hKn)
  subst ecA
  have hP : va_P D mcl ((h0, .inr (4, [.null, .int 0])) :: ((q1, .inl (cy 2, 6, .inr (.inr (.inr (.inr (fun _ => none)))))) :: [])) _ := hP
  have hD : va_D A ((h0, .inr (4, [.null, .int 0])) :: ((q1, .inl (cy 2, 6, .inr (.inr (.inr (.inr (fun _ => none)))))) :: [])) := hD
  refine W.widen (k := 1) (n := 6) (Nat.le_of_ble_eq_true rfl) (Nat.le_of_ble_eq_true rfl) ?_
  refine va_putF (D := D) (ci := 4) (v := .ref q1) (ty := .array (.object "ZigzagPieces$Row")) (C := RX4) (T := TX4) (N := 2) hx hb hts inX4 tyX4 tyX4_ok nmX4 hown hK hP hD hS 0 rfl rfl 0 (by decide) (hts (.fieldLink RX4 15 "ZigzagPieces$Shelf" "rows" "[LZigzagPieces$Row;") (Tb_at 109 rfl rfl)) (fun _ h9 => h9) rfl hin rfl (by decide +kernel) rfl rfl (Nat.le_of_ble_eq_true rfl) dn_iShelf6_13 (fun H locs hP hD hS => ?_)
  have hP : va_P D mcl ((h0, .inr (4, [.ref q1, .int 0])) :: ((q1, .inl (cy 2, 6, .inr (.inr (.inr (.inr (fun _ => none)))))) :: [])) _ := hP
  have hD : va_D A ((h0, .inr (4, [.ref q1, .int 0])) :: ((q1, .inl (cy 2, 6, .inr (.inr (.inr (.inr (fun _ => none)))))) :: [])) := hD
  refine lv_iconst (v := 0) hx hb dn_iShelf6_16 (by decide) ?_
  refine lv_istore_n (lv' := [(2, .int 0), (0, .ref h0), (1, .int 6)]) hx hb dn_iShelf6_17 rfl hl (by decide) rfl (fun ls hl => ?_)
  refine lv_iload_n hx hb dn_iShelf6_18 rfl (lv_at hl 0 rfl) ?_
  refine lv_aload_n hx hb dn_iShelf6_19 rfl (lv_at hl 1 rfl) ?_
  refine va_get (D := D) (ci := 4) (v := .ref q1) (C := RX4) (T := TX4) (N := 2) hx hb hts inX4 hown hK hP 0 rfl rfl 0 (by decide) (hts (.fieldLink RX4 15 "ZigzagPieces$Shelf" "rows" "[LZigzagPieces$Row;") (Tb_at 109 rfl rfl)) (fun _ h9 => h9) rfl dn_iShelf6_20 ?_
  refine va_alen hx hb hK hP 1 2 rfl rfl rfl dn_iShelf6_23 ?_
  refine W.eq (g2 := F0 m 24 ls [.int 6, .int 0]) rfl ?_
  refine lv_icmp_ge (tgt := 46) hx hb dn_iShelf6_24 (by decide) (fun c => absurd c (by decide)) (fun _ => ?_)
  refine lv_aload_n hx hb dn_iShelf6_27 rfl (lv_at hl 1 rfl) ?_
  refine va_get (D := D) (ci := 4) (v := .ref q1) (C := RX4) (T := TX4) (N := 2) hx hb hts inX4 hown hK hP 0 rfl rfl 0 (by decide) (hts (.fieldLink RX4 15 "ZigzagPieces$Shelf" "rows" "[LZigzagPieces$Row;") (Tb_at 109 rfl rfl)) (fun _ h9 => h9) rfl dn_iShelf6_28 ?_
  refine lv_iload_n hx hb dn_iShelf6_31 rfl (lv_at hl 0 rfl) ?_
  refine va_new (ci := 3) (fs := [.null, .int 0]) (C := RX3) (T := TX3) (N := 2) hx hb hts inX3 tyX3 tyX3_ok hown (hts (.classLink RX4 13 RX3) (Tb_at 106 rfl rfl)) (hts (.instantiable RX3 2) (Tb_at 85 rfl rfl)) (hts (.initialized RX3) (Tb_at 48 rfl rfl)) hK hP hD hS hA rfl (fun j hj => by rcases (show j = 0 ∨ j = 1 by omega) with rfl | rfl <;> rfl) (Nat.le_of_ble_eq_true rfl) (Nat.le_of_ble_eq_true rfl) dn_iShelf6_32 (fun q2 H hP hD hS => ?_)
  have hP : va_P D mcl ((h0, .inr (4, [.ref q1, .int 0])) :: (((q1, .inl (cy 2, 6, .inr (.inr (.inr (.inr (fun _ => none)))))) :: []) ++ [(q2, .inr (3, [.null, .int 0]))])) _ := hP
  have hD : va_D A ((h0, .inr (4, [.ref q1, .int 0])) :: (((q1, .inl (cy 2, 6, .inr (.inr (.inr (.inr (fun _ => none)))))) :: []) ++ [(q2, .inr (3, [.null, .int 0]))])) := hD
  refine W.widen (k := 2) (n := 8) (Nat.le_of_ble_eq_true rfl) (Nat.le_of_ble_eq_true rfl) ?_
  refine lv_dup hx hb dn_iShelf6_35 rfl ?_
  have hP : va_P D mcl (((h0, .inr (4, [.ref q1, .int 0])) :: ((q1, .inl (cy 2, 6, .inr (.inr (.inr (.inr (fun _ => none)))))) :: [])) ++ [(q2, .inr (3, [.null, .int 0]))]) _ := hP
  have hD : va_D A (((h0, .inr (4, [.ref q1, .int 0])) :: ((q1, .inl (cy 2, 6, .inr (.inr (.inr (.inr (fun _ => none)))))) :: [])) ++ [(q2, .inr (3, [.null, .int 0]))]) := hD
  have hFc := new_free hD hS hA
  refine new_call hP hD hS hA hFc (va_runIN (cc := prog_6_method_1_code) (nL := 3) (Ts := Tb) (own := RX4) (bytes := prog_5_method_1_code) (maxL := 1) (As := []) (rest := [.ref q2, .int 0, .ref q1]) ⟨hx, hb, hml, hown, hts⟩ (n_iRow l D cy q2 _ ) ⟨va_cnB 0 hts (mGood (Tb_at 88 rfl rfl)) rfl rfl rfl (hN _ (Nb_at 108 rfl rfl)) (hts (.initialized RX3) (Tb_at 48 rfl rfl)) ⟨by decide, by decide, by decide +kernel⟩ ⟨Nat.le_of_ble_eq_true rfl, Nat.le_of_ble_eq_true rfl⟩, rfl, hts _ (Tb_at 87 rfl rfl)⟩ ⟨nPc_blind, new_pre hP hD hK hN hAO⟩ rfl rfl hl.1 rfl (lv_room (Nat.le_of_ble_eq_true rfl)) dn_iShelf6_36 ⟨Nat.le_of_ble_eq_true rfl, Nat.le_of_ble_eq_true rfl⟩) ?_
  intro w3 H locs hRw3 hP hD hS
  obtain ⟨r4, rfl⟩ := hRw3
  have hP : va_P D mcl ((h0, .inr (4, [.ref q1, .int 0])) :: (((q1, .inl (cy 2, 6, .inr (.inr (.inr (.inr (fun _ => none)))))) :: []) ++ [(q2, .inr (3, [.ref r4, .int 0])), (r4, .inl (cy 0, 40, .inl (fun _ => 0)))])) _ := hP
  have hD : va_D A ((h0, .inr (4, [.ref q1, .int 0])) :: (((q1, .inl (cy 2, 6, .inr (.inr (.inr (.inr (fun _ => none)))))) :: []) ++ [(q2, .inr (3, [.ref r4, .int 0])), (r4, .inl (cy 0, 40, .inl (fun _ => 0)))])) := hD
  refine W.widen (k := 3) (n := 48) (Nat.le_of_ble_eq_true rfl) (Nat.le_of_ble_eq_true rfl) ?_
  have hP : va_P D mcl ((h0, .inr (4, [.ref q1, .int 0])) :: ((q1, .inl (cy 2, 6, .inr (.inr (.inr (.inr (fun _ => none)))))) :: ([] ++ [(q2, .inr (3, [.ref r4, .int 0])), (r4, .inl (cy 0, 40, .inl (fun _ => 0)))]))) _ := hP
  have hD : va_D A ((h0, .inr (4, [.ref q1, .int 0])) :: ((q1, .inl (cy 2, 6, .inr (.inr (.inr (.inr (fun _ => none)))))) :: ([] ++ [(q2, .inr (3, [.ref r4, .int 0])), (r4, .inl (cy 0, 40, .inl (fun _ => 0)))]))) := hD
  refine va_astq (D := D) hx hb hK hP hD hS 1 2 2 3 rfl rfl rfl rfl (i := 0) (vp_in_nI (n := 0) (N := 6) (by decide) (by decide)) dn_iShelf6_39 (fun H locs hP hD hS => ?_)
  have hP : va_P D mcl ((h0, .inr (4, [.ref q1, .int 0])) :: ((q1, .inl (cy 2, 6, .inr (.inr (.inr (.inr (va_up (fun _ => none) (0 : Int32).toNatClampNeg (some q2))))))) :: ([] ++ [(q2, .inr (3, [.ref r4, .int 0])), (r4, .inl (cy 0, 40, .inl (fun _ => 0)))]))) _ := hP
  have hD : va_D A ((h0, .inr (4, [.ref q1, .int 0])) :: ((q1, .inl (cy 2, 6, .inr (.inr (.inr (.inr (va_up (fun _ => none) (0 : Int32).toNatClampNeg (some q2))))))) :: ([] ++ [(q2, .inr (3, [.ref r4, .int 0])), (r4, .inl (cy 0, 40, .inl (fun _ => 0)))]))) := hD
  refine lv_iinc (v := 1) (lv' := [(2, .int 1), (0, .ref h0), (1, .int 6)]) hx hb dn_iShelf6_40 hl (k := 0) rfl (by decide) (by decide) rfl (fun ls hl => ?_)
  refine lv_goto (tgt := 18) hx hb dn_iShelf6_43 (by decide) ?_
  refine lv_iload_n hx hb dn_iShelf6_18 rfl (lv_at hl 0 rfl) ?_
  refine lv_aload_n hx hb dn_iShelf6_19 rfl (lv_at hl 1 rfl) ?_
  refine va_get (D := D) (ci := 4) (v := .ref q1) (C := RX4) (T := TX4) (N := 2) hx hb hts inX4 hown hK hP 0 rfl rfl 0 (by decide) (hts (.fieldLink RX4 15 "ZigzagPieces$Shelf" "rows" "[LZigzagPieces$Row;") (Tb_at 109 rfl rfl)) (fun _ h9 => h9) rfl dn_iShelf6_20 ?_
  refine va_alen hx hb hK hP 1 2 rfl rfl rfl dn_iShelf6_23 ?_
  refine W.eq (g2 := F0 m 24 ls [.int 6, .int 1]) rfl ?_
  refine lv_icmp_ge (tgt := 46) hx hb dn_iShelf6_24 (by decide) (fun c => absurd c (by decide)) (fun _ => ?_)
  refine lv_aload_n hx hb dn_iShelf6_27 rfl (lv_at hl 1 rfl) ?_
  refine va_get (D := D) (ci := 4) (v := .ref q1) (C := RX4) (T := TX4) (N := 2) hx hb hts inX4 hown hK hP 0 rfl rfl 0 (by decide) (hts (.fieldLink RX4 15 "ZigzagPieces$Shelf" "rows" "[LZigzagPieces$Row;") (Tb_at 109 rfl rfl)) (fun _ h9 => h9) rfl dn_iShelf6_28 ?_
  refine lv_iload_n hx hb dn_iShelf6_31 rfl (lv_at hl 0 rfl) ?_
  refine va_new (ci := 3) (fs := [.null, .int 0]) (C := RX3) (T := TX3) (N := 2) hx hb hts inX3 tyX3 tyX3_ok hown (hts (.classLink RX4 13 RX3) (Tb_at 106 rfl rfl)) (hts (.instantiable RX3 2) (Tb_at 85 rfl rfl)) (hts (.initialized RX3) (Tb_at 48 rfl rfl)) hK hP hD hS hA rfl (fun j hj => by rcases (show j = 0 ∨ j = 1 by omega) with rfl | rfl <;> rfl) (Nat.le_of_ble_eq_true rfl) (Nat.le_of_ble_eq_true rfl) dn_iShelf6_32 (fun q5 H hP hD hS => ?_)
  have hP : va_P D mcl ((h0, .inr (4, [.ref q1, .int 0])) :: (((q1, .inl (cy 2, 6, .inr (.inr (.inr (.inr (va_up (fun _ => none) (0 : Int32).toNatClampNeg (some q2))))))) :: ([] ++ [(q2, .inr (3, [.ref r4, .int 0])), (r4, .inl (cy 0, 40, .inl (fun _ => 0)))])) ++ [(q5, .inr (3, [.null, .int 0]))])) _ := hP
  have hD : va_D A ((h0, .inr (4, [.ref q1, .int 0])) :: (((q1, .inl (cy 2, 6, .inr (.inr (.inr (.inr (va_up (fun _ => none) (0 : Int32).toNatClampNeg (some q2))))))) :: ([] ++ [(q2, .inr (3, [.ref r4, .int 0])), (r4, .inl (cy 0, 40, .inl (fun _ => 0)))])) ++ [(q5, .inr (3, [.null, .int 0]))])) := hD
  refine W.widen (k := 4) (n := 50) (Nat.le_of_ble_eq_true rfl) (Nat.le_of_ble_eq_true rfl) ?_
  refine lv_dup hx hb dn_iShelf6_35 rfl ?_
  have hP : va_P D mcl (((h0, .inr (4, [.ref q1, .int 0])) :: ((q1, .inl (cy 2, 6, .inr (.inr (.inr (.inr (va_up (fun _ => none) (0 : Int32).toNatClampNeg (some q2))))))) :: ([] ++ [(q2, .inr (3, [.ref r4, .int 0])), (r4, .inl (cy 0, 40, .inl (fun _ => 0)))]))) ++ [(q5, .inr (3, [.null, .int 0]))]) _ := hP
  have hD : va_D A (((h0, .inr (4, [.ref q1, .int 0])) :: ((q1, .inl (cy 2, 6, .inr (.inr (.inr (.inr (va_up (fun _ => none) (0 : Int32).toNatClampNeg (some q2))))))) :: ([] ++ [(q2, .inr (3, [.ref r4, .int 0])), (r4, .inl (cy 0, 40, .inl (fun _ => 0)))]))) ++ [(q5, .inr (3, [.null, .int 0]))]) := hD
  have hFc := new_free hD hS hA
  refine new_call hP hD hS hA hFc (va_runIN (cc := prog_6_method_1_code) (nL := 3) (Ts := Tb) (own := RX4) (bytes := prog_5_method_1_code) (maxL := 1) (As := []) (rest := [.ref q5, .int 1, .ref q1]) ⟨hx, hb, hml, hown, hts⟩ (n_iRow l D cy q5 _ ) ⟨va_cnB 0 hts (mGood (Tb_at 88 rfl rfl)) rfl rfl rfl (hN _ (Nb_at 108 rfl rfl)) (hts (.initialized RX3) (Tb_at 48 rfl rfl)) ⟨by decide, by decide, by decide +kernel⟩ ⟨Nat.le_of_ble_eq_true rfl, Nat.le_of_ble_eq_true rfl⟩, rfl, hts _ (Tb_at 87 rfl rfl)⟩ ⟨nPc_blind, new_pre hP hD hK hN hAO⟩ rfl rfl hl.1 rfl (lv_room (Nat.le_of_ble_eq_true rfl)) dn_iShelf6_36 ⟨Nat.le_of_ble_eq_true rfl, Nat.le_of_ble_eq_true rfl⟩) ?_
  intro w6 H locs hRw6 hP hD hS
  obtain ⟨r7, rfl⟩ := hRw6
  have hP : va_P D mcl ((h0, .inr (4, [.ref q1, .int 0])) :: (((q1, .inl (cy 2, 6, .inr (.inr (.inr (.inr (va_up (fun _ => none) (0 : Int32).toNatClampNeg (some q2))))))) :: ([] ++ [(q2, .inr (3, [.ref r4, .int 0])), (r4, .inl (cy 0, 40, .inl (fun _ => 0)))])) ++ [(q5, .inr (3, [.ref r7, .int 0])), (r7, .inl (cy 0, 40, .inl (fun _ => 0)))])) _ := hP
  have hD : va_D A ((h0, .inr (4, [.ref q1, .int 0])) :: (((q1, .inl (cy 2, 6, .inr (.inr (.inr (.inr (va_up (fun _ => none) (0 : Int32).toNatClampNeg (some q2))))))) :: ([] ++ [(q2, .inr (3, [.ref r4, .int 0])), (r4, .inl (cy 0, 40, .inl (fun _ => 0)))])) ++ [(q5, .inr (3, [.ref r7, .int 0])), (r7, .inl (cy 0, 40, .inl (fun _ => 0)))])) := hD
  refine W.widen (k := 5) (n := 90) (Nat.le_of_ble_eq_true rfl) (Nat.le_of_ble_eq_true rfl) ?_
  have hP : va_P D mcl ((h0, .inr (4, [.ref q1, .int 0])) :: ((q1, .inl (cy 2, 6, .inr (.inr (.inr (.inr (va_up (fun _ => none) (0 : Int32).toNatClampNeg (some q2))))))) :: (([] ++ [(q2, .inr (3, [.ref r4, .int 0])), (r4, .inl (cy 0, 40, .inl (fun _ => 0)))]) ++ [(q5, .inr (3, [.ref r7, .int 0])), (r7, .inl (cy 0, 40, .inl (fun _ => 0)))]))) _ := hP
  have hD : va_D A ((h0, .inr (4, [.ref q1, .int 0])) :: ((q1, .inl (cy 2, 6, .inr (.inr (.inr (.inr (va_up (fun _ => none) (0 : Int32).toNatClampNeg (some q2))))))) :: (([] ++ [(q2, .inr (3, [.ref r4, .int 0])), (r4, .inl (cy 0, 40, .inl (fun _ => 0)))]) ++ [(q5, .inr (3, [.ref r7, .int 0])), (r7, .inl (cy 0, 40, .inl (fun _ => 0)))]))) := hD
  refine va_astq (D := D) hx hb hK hP hD hS 1 2 4 3 rfl rfl rfl rfl (i := 1) (vp_in_nI (n := 1) (N := 6) (by decide) (by decide)) dn_iShelf6_39 (fun H locs hP hD hS => ?_)
  have hP : va_P D mcl ((h0, .inr (4, [.ref q1, .int 0])) :: ((q1, .inl (cy 2, 6, .inr (.inr (.inr (.inr (va_up (va_up (fun _ => none) (0 : Int32).toNatClampNeg (some q2)) (1 : Int32).toNatClampNeg (some q5))))))) :: (([] ++ [(q2, .inr (3, [.ref r4, .int 0])), (r4, .inl (cy 0, 40, .inl (fun _ => 0)))]) ++ [(q5, .inr (3, [.ref r7, .int 0])), (r7, .inl (cy 0, 40, .inl (fun _ => 0)))]))) _ := hP
  have hD : va_D A ((h0, .inr (4, [.ref q1, .int 0])) :: ((q1, .inl (cy 2, 6, .inr (.inr (.inr (.inr (va_up (va_up (fun _ => none) (0 : Int32).toNatClampNeg (some q2)) (1 : Int32).toNatClampNeg (some q5))))))) :: (([] ++ [(q2, .inr (3, [.ref r4, .int 0])), (r4, .inl (cy 0, 40, .inl (fun _ => 0)))]) ++ [(q5, .inr (3, [.ref r7, .int 0])), (r7, .inl (cy 0, 40, .inl (fun _ => 0)))]))) := hD
  refine lv_iinc (v := 2) (lv' := [(2, .int 2), (0, .ref h0), (1, .int 6)]) hx hb dn_iShelf6_40 hl (k := 0) rfl (by decide) (by decide) rfl (fun ls hl => ?_)
  refine lv_goto (tgt := 18) hx hb dn_iShelf6_43 (by decide) ?_
  refine lv_iload_n hx hb dn_iShelf6_18 rfl (lv_at hl 0 rfl) ?_
  refine lv_aload_n hx hb dn_iShelf6_19 rfl (lv_at hl 1 rfl) ?_
  refine va_get (D := D) (ci := 4) (v := .ref q1) (C := RX4) (T := TX4) (N := 2) hx hb hts inX4 hown hK hP 0 rfl rfl 0 (by decide) (hts (.fieldLink RX4 15 "ZigzagPieces$Shelf" "rows" "[LZigzagPieces$Row;") (Tb_at 109 rfl rfl)) (fun _ h9 => h9) rfl dn_iShelf6_20 ?_
  refine va_alen hx hb hK hP 1 2 rfl rfl rfl dn_iShelf6_23 ?_
  refine W.eq (g2 := F0 m 24 ls [.int 6, .int 2]) rfl ?_
  refine lv_icmp_ge (tgt := 46) hx hb dn_iShelf6_24 (by decide) (fun c => absurd c (by decide)) (fun _ => ?_)
  refine lv_aload_n hx hb dn_iShelf6_27 rfl (lv_at hl 1 rfl) ?_
  refine va_get (D := D) (ci := 4) (v := .ref q1) (C := RX4) (T := TX4) (N := 2) hx hb hts inX4 hown hK hP 0 rfl rfl 0 (by decide) (hts (.fieldLink RX4 15 "ZigzagPieces$Shelf" "rows" "[LZigzagPieces$Row;") (Tb_at 109 rfl rfl)) (fun _ h9 => h9) rfl dn_iShelf6_28 ?_
  refine lv_iload_n hx hb dn_iShelf6_31 rfl (lv_at hl 0 rfl) ?_
  refine va_new (ci := 3) (fs := [.null, .int 0]) (C := RX3) (T := TX3) (N := 2) hx hb hts inX3 tyX3 tyX3_ok hown (hts (.classLink RX4 13 RX3) (Tb_at 106 rfl rfl)) (hts (.instantiable RX3 2) (Tb_at 85 rfl rfl)) (hts (.initialized RX3) (Tb_at 48 rfl rfl)) hK hP hD hS hA rfl (fun j hj => by rcases (show j = 0 ∨ j = 1 by omega) with rfl | rfl <;> rfl) (Nat.le_of_ble_eq_true rfl) (Nat.le_of_ble_eq_true rfl) dn_iShelf6_32 (fun q8 H hP hD hS => ?_)
  have hP : va_P D mcl ((h0, .inr (4, [.ref q1, .int 0])) :: (((q1, .inl (cy 2, 6, .inr (.inr (.inr (.inr (va_up (va_up (fun _ => none) (0 : Int32).toNatClampNeg (some q2)) (1 : Int32).toNatClampNeg (some q5))))))) :: (([] ++ [(q2, .inr (3, [.ref r4, .int 0])), (r4, .inl (cy 0, 40, .inl (fun _ => 0)))]) ++ [(q5, .inr (3, [.ref r7, .int 0])), (r7, .inl (cy 0, 40, .inl (fun _ => 0)))])) ++ [(q8, .inr (3, [.null, .int 0]))])) _ := hP
  have hD : va_D A ((h0, .inr (4, [.ref q1, .int 0])) :: (((q1, .inl (cy 2, 6, .inr (.inr (.inr (.inr (va_up (va_up (fun _ => none) (0 : Int32).toNatClampNeg (some q2)) (1 : Int32).toNatClampNeg (some q5))))))) :: (([] ++ [(q2, .inr (3, [.ref r4, .int 0])), (r4, .inl (cy 0, 40, .inl (fun _ => 0)))]) ++ [(q5, .inr (3, [.ref r7, .int 0])), (r7, .inl (cy 0, 40, .inl (fun _ => 0)))])) ++ [(q8, .inr (3, [.null, .int 0]))])) := hD
  refine W.widen (k := 6) (n := 92) (Nat.le_of_ble_eq_true rfl) (Nat.le_of_ble_eq_true rfl) ?_
  refine lv_dup hx hb dn_iShelf6_35 rfl ?_
  have hP : va_P D mcl (((h0, .inr (4, [.ref q1, .int 0])) :: ((q1, .inl (cy 2, 6, .inr (.inr (.inr (.inr (va_up (va_up (fun _ => none) (0 : Int32).toNatClampNeg (some q2)) (1 : Int32).toNatClampNeg (some q5))))))) :: (([] ++ [(q2, .inr (3, [.ref r4, .int 0])), (r4, .inl (cy 0, 40, .inl (fun _ => 0)))]) ++ [(q5, .inr (3, [.ref r7, .int 0])), (r7, .inl (cy 0, 40, .inl (fun _ => 0)))]))) ++ [(q8, .inr (3, [.null, .int 0]))]) _ := hP
  have hD : va_D A (((h0, .inr (4, [.ref q1, .int 0])) :: ((q1, .inl (cy 2, 6, .inr (.inr (.inr (.inr (va_up (va_up (fun _ => none) (0 : Int32).toNatClampNeg (some q2)) (1 : Int32).toNatClampNeg (some q5))))))) :: (([] ++ [(q2, .inr (3, [.ref r4, .int 0])), (r4, .inl (cy 0, 40, .inl (fun _ => 0)))]) ++ [(q5, .inr (3, [.ref r7, .int 0])), (r7, .inl (cy 0, 40, .inl (fun _ => 0)))]))) ++ [(q8, .inr (3, [.null, .int 0]))]) := hD
  have hFc := new_free hD hS hA
  refine new_call hP hD hS hA hFc (va_runIN (cc := prog_6_method_1_code) (nL := 3) (Ts := Tb) (own := RX4) (bytes := prog_5_method_1_code) (maxL := 1) (As := []) (rest := [.ref q8, .int 2, .ref q1]) ⟨hx, hb, hml, hown, hts⟩ (n_iRow l D cy q8 _ ) ⟨va_cnB 0 hts (mGood (Tb_at 88 rfl rfl)) rfl rfl rfl (hN _ (Nb_at 108 rfl rfl)) (hts (.initialized RX3) (Tb_at 48 rfl rfl)) ⟨by decide, by decide, by decide +kernel⟩ ⟨Nat.le_of_ble_eq_true rfl, Nat.le_of_ble_eq_true rfl⟩, rfl, hts _ (Tb_at 87 rfl rfl)⟩ ⟨nPc_blind, new_pre hP hD hK hN hAO⟩ rfl rfl hl.1 rfl (lv_room (Nat.le_of_ble_eq_true rfl)) dn_iShelf6_36 ⟨Nat.le_of_ble_eq_true rfl, Nat.le_of_ble_eq_true rfl⟩) ?_
  intro w9 H locs hRw9 hP hD hS
  obtain ⟨r10, rfl⟩ := hRw9
  have hP : va_P D mcl ((h0, .inr (4, [.ref q1, .int 0])) :: (((q1, .inl (cy 2, 6, .inr (.inr (.inr (.inr (va_up (va_up (fun _ => none) (0 : Int32).toNatClampNeg (some q2)) (1 : Int32).toNatClampNeg (some q5))))))) :: (([] ++ [(q2, .inr (3, [.ref r4, .int 0])), (r4, .inl (cy 0, 40, .inl (fun _ => 0)))]) ++ [(q5, .inr (3, [.ref r7, .int 0])), (r7, .inl (cy 0, 40, .inl (fun _ => 0)))])) ++ [(q8, .inr (3, [.ref r10, .int 0])), (r10, .inl (cy 0, 40, .inl (fun _ => 0)))])) _ := hP
  have hD : va_D A ((h0, .inr (4, [.ref q1, .int 0])) :: (((q1, .inl (cy 2, 6, .inr (.inr (.inr (.inr (va_up (va_up (fun _ => none) (0 : Int32).toNatClampNeg (some q2)) (1 : Int32).toNatClampNeg (some q5))))))) :: (([] ++ [(q2, .inr (3, [.ref r4, .int 0])), (r4, .inl (cy 0, 40, .inl (fun _ => 0)))]) ++ [(q5, .inr (3, [.ref r7, .int 0])), (r7, .inl (cy 0, 40, .inl (fun _ => 0)))])) ++ [(q8, .inr (3, [.ref r10, .int 0])), (r10, .inl (cy 0, 40, .inl (fun _ => 0)))])) := hD
  refine W.widen (k := 7) (n := 132) (Nat.le_of_ble_eq_true rfl) (Nat.le_of_ble_eq_true rfl) ?_
  have hP : va_P D mcl ((h0, .inr (4, [.ref q1, .int 0])) :: ((q1, .inl (cy 2, 6, .inr (.inr (.inr (.inr (va_up (va_up (fun _ => none) (0 : Int32).toNatClampNeg (some q2)) (1 : Int32).toNatClampNeg (some q5))))))) :: ((([] ++ [(q2, .inr (3, [.ref r4, .int 0])), (r4, .inl (cy 0, 40, .inl (fun _ => 0)))]) ++ [(q5, .inr (3, [.ref r7, .int 0])), (r7, .inl (cy 0, 40, .inl (fun _ => 0)))]) ++ [(q8, .inr (3, [.ref r10, .int 0])), (r10, .inl (cy 0, 40, .inl (fun _ => 0)))]))) _ := hP
  have hD : va_D A ((h0, .inr (4, [.ref q1, .int 0])) :: ((q1, .inl (cy 2, 6, .inr (.inr (.inr (.inr (va_up (va_up (fun _ => none) (0 : Int32).toNatClampNeg (some q2)) (1 : Int32).toNatClampNeg (some q5))))))) :: ((([] ++ [(q2, .inr (3, [.ref r4, .int 0])), (r4, .inl (cy 0, 40, .inl (fun _ => 0)))]) ++ [(q5, .inr (3, [.ref r7, .int 0])), (r7, .inl (cy 0, 40, .inl (fun _ => 0)))]) ++ [(q8, .inr (3, [.ref r10, .int 0])), (r10, .inl (cy 0, 40, .inl (fun _ => 0)))]))) := hD
  refine va_astq (D := D) hx hb hK hP hD hS 1 2 6 3 rfl rfl rfl rfl (i := 2) (vp_in_nI (n := 2) (N := 6) (by decide) (by decide)) dn_iShelf6_39 (fun H locs hP hD hS => ?_)
  have hP : va_P D mcl ((h0, .inr (4, [.ref q1, .int 0])) :: ((q1, .inl (cy 2, 6, .inr (.inr (.inr (.inr (va_up (va_up (va_up (fun _ => none) (0 : Int32).toNatClampNeg (some q2)) (1 : Int32).toNatClampNeg (some q5)) (2 : Int32).toNatClampNeg (some q8))))))) :: ((([] ++ [(q2, .inr (3, [.ref r4, .int 0])), (r4, .inl (cy 0, 40, .inl (fun _ => 0)))]) ++ [(q5, .inr (3, [.ref r7, .int 0])), (r7, .inl (cy 0, 40, .inl (fun _ => 0)))]) ++ [(q8, .inr (3, [.ref r10, .int 0])), (r10, .inl (cy 0, 40, .inl (fun _ => 0)))]))) _ := hP
  have hD : va_D A ((h0, .inr (4, [.ref q1, .int 0])) :: ((q1, .inl (cy 2, 6, .inr (.inr (.inr (.inr (va_up (va_up (va_up (fun _ => none) (0 : Int32).toNatClampNeg (some q2)) (1 : Int32).toNatClampNeg (some q5)) (2 : Int32).toNatClampNeg (some q8))))))) :: ((([] ++ [(q2, .inr (3, [.ref r4, .int 0])), (r4, .inl (cy 0, 40, .inl (fun _ => 0)))]) ++ [(q5, .inr (3, [.ref r7, .int 0])), (r7, .inl (cy 0, 40, .inl (fun _ => 0)))]) ++ [(q8, .inr (3, [.ref r10, .int 0])), (r10, .inl (cy 0, 40, .inl (fun _ => 0)))]))) := hD
  refine lv_iinc (v := 3) (lv' := [(2, .int 3), (0, .ref h0), (1, .int 6)]) hx hb dn_iShelf6_40 hl (k := 0) rfl (by decide) (by decide) rfl (fun ls hl => ?_)
  refine lv_goto (tgt := 18) hx hb dn_iShelf6_43 (by decide) ?_
  refine lv_iload_n hx hb dn_iShelf6_18 rfl (lv_at hl 0 rfl) ?_
  refine lv_aload_n hx hb dn_iShelf6_19 rfl (lv_at hl 1 rfl) ?_
  refine va_get (D := D) (ci := 4) (v := .ref q1) (C := RX4) (T := TX4) (N := 2) hx hb hts inX4 hown hK hP 0 rfl rfl 0 (by decide) (hts (.fieldLink RX4 15 "ZigzagPieces$Shelf" "rows" "[LZigzagPieces$Row;") (Tb_at 109 rfl rfl)) (fun _ h9 => h9) rfl dn_iShelf6_20 ?_
  refine va_alen hx hb hK hP 1 2 rfl rfl rfl dn_iShelf6_23 ?_
  refine W.eq (g2 := F0 m 24 ls [.int 6, .int 3]) rfl ?_
  refine lv_icmp_ge (tgt := 46) hx hb dn_iShelf6_24 (by decide) (fun c => absurd c (by decide)) (fun _ => ?_)
  refine lv_aload_n hx hb dn_iShelf6_27 rfl (lv_at hl 1 rfl) ?_
  refine va_get (D := D) (ci := 4) (v := .ref q1) (C := RX4) (T := TX4) (N := 2) hx hb hts inX4 hown hK hP 0 rfl rfl 0 (by decide) (hts (.fieldLink RX4 15 "ZigzagPieces$Shelf" "rows" "[LZigzagPieces$Row;") (Tb_at 109 rfl rfl)) (fun _ h9 => h9) rfl dn_iShelf6_28 ?_
  refine lv_iload_n hx hb dn_iShelf6_31 rfl (lv_at hl 0 rfl) ?_
  refine va_new (ci := 3) (fs := [.null, .int 0]) (C := RX3) (T := TX3) (N := 2) hx hb hts inX3 tyX3 tyX3_ok hown (hts (.classLink RX4 13 RX3) (Tb_at 106 rfl rfl)) (hts (.instantiable RX3 2) (Tb_at 85 rfl rfl)) (hts (.initialized RX3) (Tb_at 48 rfl rfl)) hK hP hD hS hA rfl (fun j hj => by rcases (show j = 0 ∨ j = 1 by omega) with rfl | rfl <;> rfl) (Nat.le_of_ble_eq_true rfl) (Nat.le_of_ble_eq_true rfl) dn_iShelf6_32 (fun q11 H hP hD hS => ?_)
  have hP : va_P D mcl ((h0, .inr (4, [.ref q1, .int 0])) :: (((q1, .inl (cy 2, 6, .inr (.inr (.inr (.inr (va_up (va_up (va_up (fun _ => none) (0 : Int32).toNatClampNeg (some q2)) (1 : Int32).toNatClampNeg (some q5)) (2 : Int32).toNatClampNeg (some q8))))))) :: ((([] ++ [(q2, .inr (3, [.ref r4, .int 0])), (r4, .inl (cy 0, 40, .inl (fun _ => 0)))]) ++ [(q5, .inr (3, [.ref r7, .int 0])), (r7, .inl (cy 0, 40, .inl (fun _ => 0)))]) ++ [(q8, .inr (3, [.ref r10, .int 0])), (r10, .inl (cy 0, 40, .inl (fun _ => 0)))])) ++ [(q11, .inr (3, [.null, .int 0]))])) _ := hP
  have hD : va_D A ((h0, .inr (4, [.ref q1, .int 0])) :: (((q1, .inl (cy 2, 6, .inr (.inr (.inr (.inr (va_up (va_up (va_up (fun _ => none) (0 : Int32).toNatClampNeg (some q2)) (1 : Int32).toNatClampNeg (some q5)) (2 : Int32).toNatClampNeg (some q8))))))) :: ((([] ++ [(q2, .inr (3, [.ref r4, .int 0])), (r4, .inl (cy 0, 40, .inl (fun _ => 0)))]) ++ [(q5, .inr (3, [.ref r7, .int 0])), (r7, .inl (cy 0, 40, .inl (fun _ => 0)))]) ++ [(q8, .inr (3, [.ref r10, .int 0])), (r10, .inl (cy 0, 40, .inl (fun _ => 0)))])) ++ [(q11, .inr (3, [.null, .int 0]))])) := hD
  refine W.widen (k := 8) (n := 134) (Nat.le_of_ble_eq_true rfl) (Nat.le_of_ble_eq_true rfl) ?_
  refine lv_dup hx hb dn_iShelf6_35 rfl ?_
  have hP : va_P D mcl (((h0, .inr (4, [.ref q1, .int 0])) :: ((q1, .inl (cy 2, 6, .inr (.inr (.inr (.inr (va_up (va_up (va_up (fun _ => none) (0 : Int32).toNatClampNeg (some q2)) (1 : Int32).toNatClampNeg (some q5)) (2 : Int32).toNatClampNeg (some q8))))))) :: ((([] ++ [(q2, .inr (3, [.ref r4, .int 0])), (r4, .inl (cy 0, 40, .inl (fun _ => 0)))]) ++ [(q5, .inr (3, [.ref r7, .int 0])), (r7, .inl (cy 0, 40, .inl (fun _ => 0)))]) ++ [(q8, .inr (3, [.ref r10, .int 0])), (r10, .inl (cy 0, 40, .inl (fun _ => 0)))]))) ++ [(q11, .inr (3, [.null, .int 0]))]) _ := hP
  have hD : va_D A (((h0, .inr (4, [.ref q1, .int 0])) :: ((q1, .inl (cy 2, 6, .inr (.inr (.inr (.inr (va_up (va_up (va_up (fun _ => none) (0 : Int32).toNatClampNeg (some q2)) (1 : Int32).toNatClampNeg (some q5)) (2 : Int32).toNatClampNeg (some q8))))))) :: ((([] ++ [(q2, .inr (3, [.ref r4, .int 0])), (r4, .inl (cy 0, 40, .inl (fun _ => 0)))]) ++ [(q5, .inr (3, [.ref r7, .int 0])), (r7, .inl (cy 0, 40, .inl (fun _ => 0)))]) ++ [(q8, .inr (3, [.ref r10, .int 0])), (r10, .inl (cy 0, 40, .inl (fun _ => 0)))]))) ++ [(q11, .inr (3, [.null, .int 0]))]) := hD
  have hFc := new_free hD hS hA
  refine new_call hP hD hS hA hFc (va_runIN (cc := prog_6_method_1_code) (nL := 3) (Ts := Tb) (own := RX4) (bytes := prog_5_method_1_code) (maxL := 1) (As := []) (rest := [.ref q11, .int 3, .ref q1]) ⟨hx, hb, hml, hown, hts⟩ (n_iRow l D cy q11 _ ) ⟨va_cnB 0 hts (mGood (Tb_at 88 rfl rfl)) rfl rfl rfl (hN _ (Nb_at 108 rfl rfl)) (hts (.initialized RX3) (Tb_at 48 rfl rfl)) ⟨by decide, by decide, by decide +kernel⟩ ⟨Nat.le_of_ble_eq_true rfl, Nat.le_of_ble_eq_true rfl⟩, rfl, hts _ (Tb_at 87 rfl rfl)⟩ ⟨nPc_blind, new_pre hP hD hK hN hAO⟩ rfl rfl hl.1 rfl (lv_room (Nat.le_of_ble_eq_true rfl)) dn_iShelf6_36 ⟨Nat.le_of_ble_eq_true rfl, Nat.le_of_ble_eq_true rfl⟩) ?_
  intro w12 H locs hRw12 hP hD hS
  obtain ⟨r13, rfl⟩ := hRw12
  have hP : va_P D mcl ((h0, .inr (4, [.ref q1, .int 0])) :: (((q1, .inl (cy 2, 6, .inr (.inr (.inr (.inr (va_up (va_up (va_up (fun _ => none) (0 : Int32).toNatClampNeg (some q2)) (1 : Int32).toNatClampNeg (some q5)) (2 : Int32).toNatClampNeg (some q8))))))) :: ((([] ++ [(q2, .inr (3, [.ref r4, .int 0])), (r4, .inl (cy 0, 40, .inl (fun _ => 0)))]) ++ [(q5, .inr (3, [.ref r7, .int 0])), (r7, .inl (cy 0, 40, .inl (fun _ => 0)))]) ++ [(q8, .inr (3, [.ref r10, .int 0])), (r10, .inl (cy 0, 40, .inl (fun _ => 0)))])) ++ [(q11, .inr (3, [.ref r13, .int 0])), (r13, .inl (cy 0, 40, .inl (fun _ => 0)))])) _ := hP
  have hD : va_D A ((h0, .inr (4, [.ref q1, .int 0])) :: (((q1, .inl (cy 2, 6, .inr (.inr (.inr (.inr (va_up (va_up (va_up (fun _ => none) (0 : Int32).toNatClampNeg (some q2)) (1 : Int32).toNatClampNeg (some q5)) (2 : Int32).toNatClampNeg (some q8))))))) :: ((([] ++ [(q2, .inr (3, [.ref r4, .int 0])), (r4, .inl (cy 0, 40, .inl (fun _ => 0)))]) ++ [(q5, .inr (3, [.ref r7, .int 0])), (r7, .inl (cy 0, 40, .inl (fun _ => 0)))]) ++ [(q8, .inr (3, [.ref r10, .int 0])), (r10, .inl (cy 0, 40, .inl (fun _ => 0)))])) ++ [(q11, .inr (3, [.ref r13, .int 0])), (r13, .inl (cy 0, 40, .inl (fun _ => 0)))])) := hD
  refine W.widen (k := 9) (n := 174) (Nat.le_of_ble_eq_true rfl) (Nat.le_of_ble_eq_true rfl) ?_
  have hP : va_P D mcl ((h0, .inr (4, [.ref q1, .int 0])) :: ((q1, .inl (cy 2, 6, .inr (.inr (.inr (.inr (va_up (va_up (va_up (fun _ => none) (0 : Int32).toNatClampNeg (some q2)) (1 : Int32).toNatClampNeg (some q5)) (2 : Int32).toNatClampNeg (some q8))))))) :: (((([] ++ [(q2, .inr (3, [.ref r4, .int 0])), (r4, .inl (cy 0, 40, .inl (fun _ => 0)))]) ++ [(q5, .inr (3, [.ref r7, .int 0])), (r7, .inl (cy 0, 40, .inl (fun _ => 0)))]) ++ [(q8, .inr (3, [.ref r10, .int 0])), (r10, .inl (cy 0, 40, .inl (fun _ => 0)))]) ++ [(q11, .inr (3, [.ref r13, .int 0])), (r13, .inl (cy 0, 40, .inl (fun _ => 0)))]))) _ := hP
  have hD : va_D A ((h0, .inr (4, [.ref q1, .int 0])) :: ((q1, .inl (cy 2, 6, .inr (.inr (.inr (.inr (va_up (va_up (va_up (fun _ => none) (0 : Int32).toNatClampNeg (some q2)) (1 : Int32).toNatClampNeg (some q5)) (2 : Int32).toNatClampNeg (some q8))))))) :: (((([] ++ [(q2, .inr (3, [.ref r4, .int 0])), (r4, .inl (cy 0, 40, .inl (fun _ => 0)))]) ++ [(q5, .inr (3, [.ref r7, .int 0])), (r7, .inl (cy 0, 40, .inl (fun _ => 0)))]) ++ [(q8, .inr (3, [.ref r10, .int 0])), (r10, .inl (cy 0, 40, .inl (fun _ => 0)))]) ++ [(q11, .inr (3, [.ref r13, .int 0])), (r13, .inl (cy 0, 40, .inl (fun _ => 0)))]))) := hD
  refine va_astq (D := D) hx hb hK hP hD hS 1 2 8 3 rfl rfl rfl rfl (i := 3) (vp_in_nI (n := 3) (N := 6) (by decide) (by decide)) dn_iShelf6_39 (fun H locs hP hD hS => ?_)
  have hP : va_P D mcl ((h0, .inr (4, [.ref q1, .int 0])) :: ((q1, .inl (cy 2, 6, .inr (.inr (.inr (.inr (va_up (va_up (va_up (va_up (fun _ => none) (0 : Int32).toNatClampNeg (some q2)) (1 : Int32).toNatClampNeg (some q5)) (2 : Int32).toNatClampNeg (some q8)) (3 : Int32).toNatClampNeg (some q11))))))) :: (((([] ++ [(q2, .inr (3, [.ref r4, .int 0])), (r4, .inl (cy 0, 40, .inl (fun _ => 0)))]) ++ [(q5, .inr (3, [.ref r7, .int 0])), (r7, .inl (cy 0, 40, .inl (fun _ => 0)))]) ++ [(q8, .inr (3, [.ref r10, .int 0])), (r10, .inl (cy 0, 40, .inl (fun _ => 0)))]) ++ [(q11, .inr (3, [.ref r13, .int 0])), (r13, .inl (cy 0, 40, .inl (fun _ => 0)))]))) _ := hP
  have hD : va_D A ((h0, .inr (4, [.ref q1, .int 0])) :: ((q1, .inl (cy 2, 6, .inr (.inr (.inr (.inr (va_up (va_up (va_up (va_up (fun _ => none) (0 : Int32).toNatClampNeg (some q2)) (1 : Int32).toNatClampNeg (some q5)) (2 : Int32).toNatClampNeg (some q8)) (3 : Int32).toNatClampNeg (some q11))))))) :: (((([] ++ [(q2, .inr (3, [.ref r4, .int 0])), (r4, .inl (cy 0, 40, .inl (fun _ => 0)))]) ++ [(q5, .inr (3, [.ref r7, .int 0])), (r7, .inl (cy 0, 40, .inl (fun _ => 0)))]) ++ [(q8, .inr (3, [.ref r10, .int 0])), (r10, .inl (cy 0, 40, .inl (fun _ => 0)))]) ++ [(q11, .inr (3, [.ref r13, .int 0])), (r13, .inl (cy 0, 40, .inl (fun _ => 0)))]))) := hD
  refine lv_iinc (v := 4) (lv' := [(2, .int 4), (0, .ref h0), (1, .int 6)]) hx hb dn_iShelf6_40 hl (k := 0) rfl (by decide) (by decide) rfl (fun ls hl => ?_)
  refine lv_goto (tgt := 18) hx hb dn_iShelf6_43 (by decide) ?_
  refine lv_iload_n hx hb dn_iShelf6_18 rfl (lv_at hl 0 rfl) ?_
  refine lv_aload_n hx hb dn_iShelf6_19 rfl (lv_at hl 1 rfl) ?_
  refine va_get (D := D) (ci := 4) (v := .ref q1) (C := RX4) (T := TX4) (N := 2) hx hb hts inX4 hown hK hP 0 rfl rfl 0 (by decide) (hts (.fieldLink RX4 15 "ZigzagPieces$Shelf" "rows" "[LZigzagPieces$Row;") (Tb_at 109 rfl rfl)) (fun _ h9 => h9) rfl dn_iShelf6_20 ?_
  refine va_alen hx hb hK hP 1 2 rfl rfl rfl dn_iShelf6_23 ?_
  refine W.eq (g2 := F0 m 24 ls [.int 6, .int 4]) rfl ?_
  refine lv_icmp_ge (tgt := 46) hx hb dn_iShelf6_24 (by decide) (fun c => absurd c (by decide)) (fun _ => ?_)
  refine lv_aload_n hx hb dn_iShelf6_27 rfl (lv_at hl 1 rfl) ?_
  refine va_get (D := D) (ci := 4) (v := .ref q1) (C := RX4) (T := TX4) (N := 2) hx hb hts inX4 hown hK hP 0 rfl rfl 0 (by decide) (hts (.fieldLink RX4 15 "ZigzagPieces$Shelf" "rows" "[LZigzagPieces$Row;") (Tb_at 109 rfl rfl)) (fun _ h9 => h9) rfl dn_iShelf6_28 ?_
  refine lv_iload_n hx hb dn_iShelf6_31 rfl (lv_at hl 0 rfl) ?_
  refine va_new (ci := 3) (fs := [.null, .int 0]) (C := RX3) (T := TX3) (N := 2) hx hb hts inX3 tyX3 tyX3_ok hown (hts (.classLink RX4 13 RX3) (Tb_at 106 rfl rfl)) (hts (.instantiable RX3 2) (Tb_at 85 rfl rfl)) (hts (.initialized RX3) (Tb_at 48 rfl rfl)) hK hP hD hS hA rfl (fun j hj => by rcases (show j = 0 ∨ j = 1 by omega) with rfl | rfl <;> rfl) (Nat.le_of_ble_eq_true rfl) (Nat.le_of_ble_eq_true rfl) dn_iShelf6_32 (fun q14 H hP hD hS => ?_)
  have hP : va_P D mcl ((h0, .inr (4, [.ref q1, .int 0])) :: (((q1, .inl (cy 2, 6, .inr (.inr (.inr (.inr (va_up (va_up (va_up (va_up (fun _ => none) (0 : Int32).toNatClampNeg (some q2)) (1 : Int32).toNatClampNeg (some q5)) (2 : Int32).toNatClampNeg (some q8)) (3 : Int32).toNatClampNeg (some q11))))))) :: (((([] ++ [(q2, .inr (3, [.ref r4, .int 0])), (r4, .inl (cy 0, 40, .inl (fun _ => 0)))]) ++ [(q5, .inr (3, [.ref r7, .int 0])), (r7, .inl (cy 0, 40, .inl (fun _ => 0)))]) ++ [(q8, .inr (3, [.ref r10, .int 0])), (r10, .inl (cy 0, 40, .inl (fun _ => 0)))]) ++ [(q11, .inr (3, [.ref r13, .int 0])), (r13, .inl (cy 0, 40, .inl (fun _ => 0)))])) ++ [(q14, .inr (3, [.null, .int 0]))])) _ := hP
  have hD : va_D A ((h0, .inr (4, [.ref q1, .int 0])) :: (((q1, .inl (cy 2, 6, .inr (.inr (.inr (.inr (va_up (va_up (va_up (va_up (fun _ => none) (0 : Int32).toNatClampNeg (some q2)) (1 : Int32).toNatClampNeg (some q5)) (2 : Int32).toNatClampNeg (some q8)) (3 : Int32).toNatClampNeg (some q11))))))) :: (((([] ++ [(q2, .inr (3, [.ref r4, .int 0])), (r4, .inl (cy 0, 40, .inl (fun _ => 0)))]) ++ [(q5, .inr (3, [.ref r7, .int 0])), (r7, .inl (cy 0, 40, .inl (fun _ => 0)))]) ++ [(q8, .inr (3, [.ref r10, .int 0])), (r10, .inl (cy 0, 40, .inl (fun _ => 0)))]) ++ [(q11, .inr (3, [.ref r13, .int 0])), (r13, .inl (cy 0, 40, .inl (fun _ => 0)))])) ++ [(q14, .inr (3, [.null, .int 0]))])) := hD
  refine W.widen (k := 10) (n := 176) (Nat.le_of_ble_eq_true rfl) (Nat.le_of_ble_eq_true rfl) ?_
  refine lv_dup hx hb dn_iShelf6_35 rfl ?_
  have hP : va_P D mcl (((h0, .inr (4, [.ref q1, .int 0])) :: ((q1, .inl (cy 2, 6, .inr (.inr (.inr (.inr (va_up (va_up (va_up (va_up (fun _ => none) (0 : Int32).toNatClampNeg (some q2)) (1 : Int32).toNatClampNeg (some q5)) (2 : Int32).toNatClampNeg (some q8)) (3 : Int32).toNatClampNeg (some q11))))))) :: (((([] ++ [(q2, .inr (3, [.ref r4, .int 0])), (r4, .inl (cy 0, 40, .inl (fun _ => 0)))]) ++ [(q5, .inr (3, [.ref r7, .int 0])), (r7, .inl (cy 0, 40, .inl (fun _ => 0)))]) ++ [(q8, .inr (3, [.ref r10, .int 0])), (r10, .inl (cy 0, 40, .inl (fun _ => 0)))]) ++ [(q11, .inr (3, [.ref r13, .int 0])), (r13, .inl (cy 0, 40, .inl (fun _ => 0)))]))) ++ [(q14, .inr (3, [.null, .int 0]))]) _ := hP
  have hD : va_D A (((h0, .inr (4, [.ref q1, .int 0])) :: ((q1, .inl (cy 2, 6, .inr (.inr (.inr (.inr (va_up (va_up (va_up (va_up (fun _ => none) (0 : Int32).toNatClampNeg (some q2)) (1 : Int32).toNatClampNeg (some q5)) (2 : Int32).toNatClampNeg (some q8)) (3 : Int32).toNatClampNeg (some q11))))))) :: (((([] ++ [(q2, .inr (3, [.ref r4, .int 0])), (r4, .inl (cy 0, 40, .inl (fun _ => 0)))]) ++ [(q5, .inr (3, [.ref r7, .int 0])), (r7, .inl (cy 0, 40, .inl (fun _ => 0)))]) ++ [(q8, .inr (3, [.ref r10, .int 0])), (r10, .inl (cy 0, 40, .inl (fun _ => 0)))]) ++ [(q11, .inr (3, [.ref r13, .int 0])), (r13, .inl (cy 0, 40, .inl (fun _ => 0)))]))) ++ [(q14, .inr (3, [.null, .int 0]))]) := hD
  have hFc := new_free hD hS hA
  refine new_call hP hD hS hA hFc (va_runIN (cc := prog_6_method_1_code) (nL := 3) (Ts := Tb) (own := RX4) (bytes := prog_5_method_1_code) (maxL := 1) (As := []) (rest := [.ref q14, .int 4, .ref q1]) ⟨hx, hb, hml, hown, hts⟩ (n_iRow l D cy q14 _ ) ⟨va_cnB 0 hts (mGood (Tb_at 88 rfl rfl)) rfl rfl rfl (hN _ (Nb_at 108 rfl rfl)) (hts (.initialized RX3) (Tb_at 48 rfl rfl)) ⟨by decide, by decide, by decide +kernel⟩ ⟨Nat.le_of_ble_eq_true rfl, Nat.le_of_ble_eq_true rfl⟩, rfl, hts _ (Tb_at 87 rfl rfl)⟩ ⟨nPc_blind, new_pre hP hD hK hN hAO⟩ rfl rfl hl.1 rfl (lv_room (Nat.le_of_ble_eq_true rfl)) dn_iShelf6_36 ⟨Nat.le_of_ble_eq_true rfl, Nat.le_of_ble_eq_true rfl⟩) ?_
  intro w15 H locs hRw15 hP hD hS
  obtain ⟨r16, rfl⟩ := hRw15
  have hP : va_P D mcl ((h0, .inr (4, [.ref q1, .int 0])) :: (((q1, .inl (cy 2, 6, .inr (.inr (.inr (.inr (va_up (va_up (va_up (va_up (fun _ => none) (0 : Int32).toNatClampNeg (some q2)) (1 : Int32).toNatClampNeg (some q5)) (2 : Int32).toNatClampNeg (some q8)) (3 : Int32).toNatClampNeg (some q11))))))) :: (((([] ++ [(q2, .inr (3, [.ref r4, .int 0])), (r4, .inl (cy 0, 40, .inl (fun _ => 0)))]) ++ [(q5, .inr (3, [.ref r7, .int 0])), (r7, .inl (cy 0, 40, .inl (fun _ => 0)))]) ++ [(q8, .inr (3, [.ref r10, .int 0])), (r10, .inl (cy 0, 40, .inl (fun _ => 0)))]) ++ [(q11, .inr (3, [.ref r13, .int 0])), (r13, .inl (cy 0, 40, .inl (fun _ => 0)))])) ++ [(q14, .inr (3, [.ref r16, .int 0])), (r16, .inl (cy 0, 40, .inl (fun _ => 0)))])) _ := hP
  have hD : va_D A ((h0, .inr (4, [.ref q1, .int 0])) :: (((q1, .inl (cy 2, 6, .inr (.inr (.inr (.inr (va_up (va_up (va_up (va_up (fun _ => none) (0 : Int32).toNatClampNeg (some q2)) (1 : Int32).toNatClampNeg (some q5)) (2 : Int32).toNatClampNeg (some q8)) (3 : Int32).toNatClampNeg (some q11))))))) :: (((([] ++ [(q2, .inr (3, [.ref r4, .int 0])), (r4, .inl (cy 0, 40, .inl (fun _ => 0)))]) ++ [(q5, .inr (3, [.ref r7, .int 0])), (r7, .inl (cy 0, 40, .inl (fun _ => 0)))]) ++ [(q8, .inr (3, [.ref r10, .int 0])), (r10, .inl (cy 0, 40, .inl (fun _ => 0)))]) ++ [(q11, .inr (3, [.ref r13, .int 0])), (r13, .inl (cy 0, 40, .inl (fun _ => 0)))])) ++ [(q14, .inr (3, [.ref r16, .int 0])), (r16, .inl (cy 0, 40, .inl (fun _ => 0)))])) := hD
  refine W.widen (k := 11) (n := 216) (Nat.le_of_ble_eq_true rfl) (Nat.le_of_ble_eq_true rfl) ?_
  have hP : va_P D mcl ((h0, .inr (4, [.ref q1, .int 0])) :: ((q1, .inl (cy 2, 6, .inr (.inr (.inr (.inr (va_up (va_up (va_up (va_up (fun _ => none) (0 : Int32).toNatClampNeg (some q2)) (1 : Int32).toNatClampNeg (some q5)) (2 : Int32).toNatClampNeg (some q8)) (3 : Int32).toNatClampNeg (some q11))))))) :: ((((([] ++ [(q2, .inr (3, [.ref r4, .int 0])), (r4, .inl (cy 0, 40, .inl (fun _ => 0)))]) ++ [(q5, .inr (3, [.ref r7, .int 0])), (r7, .inl (cy 0, 40, .inl (fun _ => 0)))]) ++ [(q8, .inr (3, [.ref r10, .int 0])), (r10, .inl (cy 0, 40, .inl (fun _ => 0)))]) ++ [(q11, .inr (3, [.ref r13, .int 0])), (r13, .inl (cy 0, 40, .inl (fun _ => 0)))]) ++ [(q14, .inr (3, [.ref r16, .int 0])), (r16, .inl (cy 0, 40, .inl (fun _ => 0)))]))) _ := hP
  have hD : va_D A ((h0, .inr (4, [.ref q1, .int 0])) :: ((q1, .inl (cy 2, 6, .inr (.inr (.inr (.inr (va_up (va_up (va_up (va_up (fun _ => none) (0 : Int32).toNatClampNeg (some q2)) (1 : Int32).toNatClampNeg (some q5)) (2 : Int32).toNatClampNeg (some q8)) (3 : Int32).toNatClampNeg (some q11))))))) :: ((((([] ++ [(q2, .inr (3, [.ref r4, .int 0])), (r4, .inl (cy 0, 40, .inl (fun _ => 0)))]) ++ [(q5, .inr (3, [.ref r7, .int 0])), (r7, .inl (cy 0, 40, .inl (fun _ => 0)))]) ++ [(q8, .inr (3, [.ref r10, .int 0])), (r10, .inl (cy 0, 40, .inl (fun _ => 0)))]) ++ [(q11, .inr (3, [.ref r13, .int 0])), (r13, .inl (cy 0, 40, .inl (fun _ => 0)))]) ++ [(q14, .inr (3, [.ref r16, .int 0])), (r16, .inl (cy 0, 40, .inl (fun _ => 0)))]))) := hD
  refine va_astq (D := D) hx hb hK hP hD hS 1 2 10 3 rfl rfl rfl rfl (i := 4) (vp_in_nI (n := 4) (N := 6) (by decide) (by decide)) dn_iShelf6_39 (fun H locs hP hD hS => ?_)
  have hP : va_P D mcl ((h0, .inr (4, [.ref q1, .int 0])) :: ((q1, .inl (cy 2, 6, .inr (.inr (.inr (.inr (va_up (va_up (va_up (va_up (va_up (fun _ => none) (0 : Int32).toNatClampNeg (some q2)) (1 : Int32).toNatClampNeg (some q5)) (2 : Int32).toNatClampNeg (some q8)) (3 : Int32).toNatClampNeg (some q11)) (4 : Int32).toNatClampNeg (some q14))))))) :: ((((([] ++ [(q2, .inr (3, [.ref r4, .int 0])), (r4, .inl (cy 0, 40, .inl (fun _ => 0)))]) ++ [(q5, .inr (3, [.ref r7, .int 0])), (r7, .inl (cy 0, 40, .inl (fun _ => 0)))]) ++ [(q8, .inr (3, [.ref r10, .int 0])), (r10, .inl (cy 0, 40, .inl (fun _ => 0)))]) ++ [(q11, .inr (3, [.ref r13, .int 0])), (r13, .inl (cy 0, 40, .inl (fun _ => 0)))]) ++ [(q14, .inr (3, [.ref r16, .int 0])), (r16, .inl (cy 0, 40, .inl (fun _ => 0)))]))) _ := hP
  have hD : va_D A ((h0, .inr (4, [.ref q1, .int 0])) :: ((q1, .inl (cy 2, 6, .inr (.inr (.inr (.inr (va_up (va_up (va_up (va_up (va_up (fun _ => none) (0 : Int32).toNatClampNeg (some q2)) (1 : Int32).toNatClampNeg (some q5)) (2 : Int32).toNatClampNeg (some q8)) (3 : Int32).toNatClampNeg (some q11)) (4 : Int32).toNatClampNeg (some q14))))))) :: ((((([] ++ [(q2, .inr (3, [.ref r4, .int 0])), (r4, .inl (cy 0, 40, .inl (fun _ => 0)))]) ++ [(q5, .inr (3, [.ref r7, .int 0])), (r7, .inl (cy 0, 40, .inl (fun _ => 0)))]) ++ [(q8, .inr (3, [.ref r10, .int 0])), (r10, .inl (cy 0, 40, .inl (fun _ => 0)))]) ++ [(q11, .inr (3, [.ref r13, .int 0])), (r13, .inl (cy 0, 40, .inl (fun _ => 0)))]) ++ [(q14, .inr (3, [.ref r16, .int 0])), (r16, .inl (cy 0, 40, .inl (fun _ => 0)))]))) := hD
  refine lv_iinc (v := 5) (lv' := [(2, .int 5), (0, .ref h0), (1, .int 6)]) hx hb dn_iShelf6_40 hl (k := 0) rfl (by decide) (by decide) rfl (fun ls hl => ?_)
  refine lv_goto (tgt := 18) hx hb dn_iShelf6_43 (by decide) ?_
  refine lv_iload_n hx hb dn_iShelf6_18 rfl (lv_at hl 0 rfl) ?_
  refine lv_aload_n hx hb dn_iShelf6_19 rfl (lv_at hl 1 rfl) ?_
  refine va_get (D := D) (ci := 4) (v := .ref q1) (C := RX4) (T := TX4) (N := 2) hx hb hts inX4 hown hK hP 0 rfl rfl 0 (by decide) (hts (.fieldLink RX4 15 "ZigzagPieces$Shelf" "rows" "[LZigzagPieces$Row;") (Tb_at 109 rfl rfl)) (fun _ h9 => h9) rfl dn_iShelf6_20 ?_
  refine va_alen hx hb hK hP 1 2 rfl rfl rfl dn_iShelf6_23 ?_
  refine W.eq (g2 := F0 m 24 ls [.int 6, .int 5]) rfl ?_
  refine lv_icmp_ge (tgt := 46) hx hb dn_iShelf6_24 (by decide) (fun c => absurd c (by decide)) (fun _ => ?_)
  refine lv_aload_n hx hb dn_iShelf6_27 rfl (lv_at hl 1 rfl) ?_
  refine va_get (D := D) (ci := 4) (v := .ref q1) (C := RX4) (T := TX4) (N := 2) hx hb hts inX4 hown hK hP 0 rfl rfl 0 (by decide) (hts (.fieldLink RX4 15 "ZigzagPieces$Shelf" "rows" "[LZigzagPieces$Row;") (Tb_at 109 rfl rfl)) (fun _ h9 => h9) rfl dn_iShelf6_28 ?_
  refine lv_iload_n hx hb dn_iShelf6_31 rfl (lv_at hl 0 rfl) ?_
  refine va_new (ci := 3) (fs := [.null, .int 0]) (C := RX3) (T := TX3) (N := 2) hx hb hts inX3 tyX3 tyX3_ok hown (hts (.classLink RX4 13 RX3) (Tb_at 106 rfl rfl)) (hts (.instantiable RX3 2) (Tb_at 85 rfl rfl)) (hts (.initialized RX3) (Tb_at 48 rfl rfl)) hK hP hD hS hA rfl (fun j hj => by rcases (show j = 0 ∨ j = 1 by omega) with rfl | rfl <;> rfl) (Nat.le_of_ble_eq_true rfl) (Nat.le_of_ble_eq_true rfl) dn_iShelf6_32 (fun q17 H hP hD hS => ?_)
  have hP : va_P D mcl ((h0, .inr (4, [.ref q1, .int 0])) :: (((q1, .inl (cy 2, 6, .inr (.inr (.inr (.inr (va_up (va_up (va_up (va_up (va_up (fun _ => none) (0 : Int32).toNatClampNeg (some q2)) (1 : Int32).toNatClampNeg (some q5)) (2 : Int32).toNatClampNeg (some q8)) (3 : Int32).toNatClampNeg (some q11)) (4 : Int32).toNatClampNeg (some q14))))))) :: ((((([] ++ [(q2, .inr (3, [.ref r4, .int 0])), (r4, .inl (cy 0, 40, .inl (fun _ => 0)))]) ++ [(q5, .inr (3, [.ref r7, .int 0])), (r7, .inl (cy 0, 40, .inl (fun _ => 0)))]) ++ [(q8, .inr (3, [.ref r10, .int 0])), (r10, .inl (cy 0, 40, .inl (fun _ => 0)))]) ++ [(q11, .inr (3, [.ref r13, .int 0])), (r13, .inl (cy 0, 40, .inl (fun _ => 0)))]) ++ [(q14, .inr (3, [.ref r16, .int 0])), (r16, .inl (cy 0, 40, .inl (fun _ => 0)))])) ++ [(q17, .inr (3, [.null, .int 0]))])) _ := hP
  have hD : va_D A ((h0, .inr (4, [.ref q1, .int 0])) :: (((q1, .inl (cy 2, 6, .inr (.inr (.inr (.inr (va_up (va_up (va_up (va_up (va_up (fun _ => none) (0 : Int32).toNatClampNeg (some q2)) (1 : Int32).toNatClampNeg (some q5)) (2 : Int32).toNatClampNeg (some q8)) (3 : Int32).toNatClampNeg (some q11)) (4 : Int32).toNatClampNeg (some q14))))))) :: ((((([] ++ [(q2, .inr (3, [.ref r4, .int 0])), (r4, .inl (cy 0, 40, .inl (fun _ => 0)))]) ++ [(q5, .inr (3, [.ref r7, .int 0])), (r7, .inl (cy 0, 40, .inl (fun _ => 0)))]) ++ [(q8, .inr (3, [.ref r10, .int 0])), (r10, .inl (cy 0, 40, .inl (fun _ => 0)))]) ++ [(q11, .inr (3, [.ref r13, .int 0])), (r13, .inl (cy 0, 40, .inl (fun _ => 0)))]) ++ [(q14, .inr (3, [.ref r16, .int 0])), (r16, .inl (cy 0, 40, .inl (fun _ => 0)))])) ++ [(q17, .inr (3, [.null, .int 0]))])) := hD
  refine W.widen (k := 12) (n := 218) (Nat.le_of_ble_eq_true rfl) (Nat.le_of_ble_eq_true rfl) ?_
  refine lv_dup hx hb dn_iShelf6_35 rfl ?_
  have hP : va_P D mcl (((h0, .inr (4, [.ref q1, .int 0])) :: ((q1, .inl (cy 2, 6, .inr (.inr (.inr (.inr (va_up (va_up (va_up (va_up (va_up (fun _ => none) (0 : Int32).toNatClampNeg (some q2)) (1 : Int32).toNatClampNeg (some q5)) (2 : Int32).toNatClampNeg (some q8)) (3 : Int32).toNatClampNeg (some q11)) (4 : Int32).toNatClampNeg (some q14))))))) :: ((((([] ++ [(q2, .inr (3, [.ref r4, .int 0])), (r4, .inl (cy 0, 40, .inl (fun _ => 0)))]) ++ [(q5, .inr (3, [.ref r7, .int 0])), (r7, .inl (cy 0, 40, .inl (fun _ => 0)))]) ++ [(q8, .inr (3, [.ref r10, .int 0])), (r10, .inl (cy 0, 40, .inl (fun _ => 0)))]) ++ [(q11, .inr (3, [.ref r13, .int 0])), (r13, .inl (cy 0, 40, .inl (fun _ => 0)))]) ++ [(q14, .inr (3, [.ref r16, .int 0])), (r16, .inl (cy 0, 40, .inl (fun _ => 0)))]))) ++ [(q17, .inr (3, [.null, .int 0]))]) _ := hP
  have hD : va_D A (((h0, .inr (4, [.ref q1, .int 0])) :: ((q1, .inl (cy 2, 6, .inr (.inr (.inr (.inr (va_up (va_up (va_up (va_up (va_up (fun _ => none) (0 : Int32).toNatClampNeg (some q2)) (1 : Int32).toNatClampNeg (some q5)) (2 : Int32).toNatClampNeg (some q8)) (3 : Int32).toNatClampNeg (some q11)) (4 : Int32).toNatClampNeg (some q14))))))) :: ((((([] ++ [(q2, .inr (3, [.ref r4, .int 0])), (r4, .inl (cy 0, 40, .inl (fun _ => 0)))]) ++ [(q5, .inr (3, [.ref r7, .int 0])), (r7, .inl (cy 0, 40, .inl (fun _ => 0)))]) ++ [(q8, .inr (3, [.ref r10, .int 0])), (r10, .inl (cy 0, 40, .inl (fun _ => 0)))]) ++ [(q11, .inr (3, [.ref r13, .int 0])), (r13, .inl (cy 0, 40, .inl (fun _ => 0)))]) ++ [(q14, .inr (3, [.ref r16, .int 0])), (r16, .inl (cy 0, 40, .inl (fun _ => 0)))]))) ++ [(q17, .inr (3, [.null, .int 0]))]) := hD
  have hFc := new_free hD hS hA
  refine new_call hP hD hS hA hFc (va_runIN (cc := prog_6_method_1_code) (nL := 3) (Ts := Tb) (own := RX4) (bytes := prog_5_method_1_code) (maxL := 1) (As := []) (rest := [.ref q17, .int 5, .ref q1]) ⟨hx, hb, hml, hown, hts⟩ (n_iRow l D cy q17 _ ) ⟨va_cnB 0 hts (mGood (Tb_at 88 rfl rfl)) rfl rfl rfl (hN _ (Nb_at 108 rfl rfl)) (hts (.initialized RX3) (Tb_at 48 rfl rfl)) ⟨by decide, by decide, by decide +kernel⟩ ⟨Nat.le_of_ble_eq_true rfl, Nat.le_of_ble_eq_true rfl⟩, rfl, hts _ (Tb_at 87 rfl rfl)⟩ ⟨nPc_blind, new_pre hP hD hK hN hAO⟩ rfl rfl hl.1 rfl (lv_room (Nat.le_of_ble_eq_true rfl)) dn_iShelf6_36 ⟨Nat.le_of_ble_eq_true rfl, Nat.le_of_ble_eq_true rfl⟩) ?_
  intro w18 H locs hRw18 hP hD hS
  obtain ⟨r19, rfl⟩ := hRw18
  have hP : va_P D mcl ((h0, .inr (4, [.ref q1, .int 0])) :: (((q1, .inl (cy 2, 6, .inr (.inr (.inr (.inr (va_up (va_up (va_up (va_up (va_up (fun _ => none) (0 : Int32).toNatClampNeg (some q2)) (1 : Int32).toNatClampNeg (some q5)) (2 : Int32).toNatClampNeg (some q8)) (3 : Int32).toNatClampNeg (some q11)) (4 : Int32).toNatClampNeg (some q14))))))) :: ((((([] ++ [(q2, .inr (3, [.ref r4, .int 0])), (r4, .inl (cy 0, 40, .inl (fun _ => 0)))]) ++ [(q5, .inr (3, [.ref r7, .int 0])), (r7, .inl (cy 0, 40, .inl (fun _ => 0)))]) ++ [(q8, .inr (3, [.ref r10, .int 0])), (r10, .inl (cy 0, 40, .inl (fun _ => 0)))]) ++ [(q11, .inr (3, [.ref r13, .int 0])), (r13, .inl (cy 0, 40, .inl (fun _ => 0)))]) ++ [(q14, .inr (3, [.ref r16, .int 0])), (r16, .inl (cy 0, 40, .inl (fun _ => 0)))])) ++ [(q17, .inr (3, [.ref r19, .int 0])), (r19, .inl (cy 0, 40, .inl (fun _ => 0)))])) _ := hP
  have hD : va_D A ((h0, .inr (4, [.ref q1, .int 0])) :: (((q1, .inl (cy 2, 6, .inr (.inr (.inr (.inr (va_up (va_up (va_up (va_up (va_up (fun _ => none) (0 : Int32).toNatClampNeg (some q2)) (1 : Int32).toNatClampNeg (some q5)) (2 : Int32).toNatClampNeg (some q8)) (3 : Int32).toNatClampNeg (some q11)) (4 : Int32).toNatClampNeg (some q14))))))) :: ((((([] ++ [(q2, .inr (3, [.ref r4, .int 0])), (r4, .inl (cy 0, 40, .inl (fun _ => 0)))]) ++ [(q5, .inr (3, [.ref r7, .int 0])), (r7, .inl (cy 0, 40, .inl (fun _ => 0)))]) ++ [(q8, .inr (3, [.ref r10, .int 0])), (r10, .inl (cy 0, 40, .inl (fun _ => 0)))]) ++ [(q11, .inr (3, [.ref r13, .int 0])), (r13, .inl (cy 0, 40, .inl (fun _ => 0)))]) ++ [(q14, .inr (3, [.ref r16, .int 0])), (r16, .inl (cy 0, 40, .inl (fun _ => 0)))])) ++ [(q17, .inr (3, [.ref r19, .int 0])), (r19, .inl (cy 0, 40, .inl (fun _ => 0)))])) := hD
  refine W.widen (k := 13) (n := 258) (Nat.le_of_ble_eq_true rfl) (Nat.le_of_ble_eq_true rfl) ?_
  have hP : va_P D mcl ((h0, .inr (4, [.ref q1, .int 0])) :: ((q1, .inl (cy 2, 6, .inr (.inr (.inr (.inr (va_up (va_up (va_up (va_up (va_up (fun _ => none) (0 : Int32).toNatClampNeg (some q2)) (1 : Int32).toNatClampNeg (some q5)) (2 : Int32).toNatClampNeg (some q8)) (3 : Int32).toNatClampNeg (some q11)) (4 : Int32).toNatClampNeg (some q14))))))) :: (((((([] ++ [(q2, .inr (3, [.ref r4, .int 0])), (r4, .inl (cy 0, 40, .inl (fun _ => 0)))]) ++ [(q5, .inr (3, [.ref r7, .int 0])), (r7, .inl (cy 0, 40, .inl (fun _ => 0)))]) ++ [(q8, .inr (3, [.ref r10, .int 0])), (r10, .inl (cy 0, 40, .inl (fun _ => 0)))]) ++ [(q11, .inr (3, [.ref r13, .int 0])), (r13, .inl (cy 0, 40, .inl (fun _ => 0)))]) ++ [(q14, .inr (3, [.ref r16, .int 0])), (r16, .inl (cy 0, 40, .inl (fun _ => 0)))]) ++ [(q17, .inr (3, [.ref r19, .int 0])), (r19, .inl (cy 0, 40, .inl (fun _ => 0)))]))) _ := hP
  have hD : va_D A ((h0, .inr (4, [.ref q1, .int 0])) :: ((q1, .inl (cy 2, 6, .inr (.inr (.inr (.inr (va_up (va_up (va_up (va_up (va_up (fun _ => none) (0 : Int32).toNatClampNeg (some q2)) (1 : Int32).toNatClampNeg (some q5)) (2 : Int32).toNatClampNeg (some q8)) (3 : Int32).toNatClampNeg (some q11)) (4 : Int32).toNatClampNeg (some q14))))))) :: (((((([] ++ [(q2, .inr (3, [.ref r4, .int 0])), (r4, .inl (cy 0, 40, .inl (fun _ => 0)))]) ++ [(q5, .inr (3, [.ref r7, .int 0])), (r7, .inl (cy 0, 40, .inl (fun _ => 0)))]) ++ [(q8, .inr (3, [.ref r10, .int 0])), (r10, .inl (cy 0, 40, .inl (fun _ => 0)))]) ++ [(q11, .inr (3, [.ref r13, .int 0])), (r13, .inl (cy 0, 40, .inl (fun _ => 0)))]) ++ [(q14, .inr (3, [.ref r16, .int 0])), (r16, .inl (cy 0, 40, .inl (fun _ => 0)))]) ++ [(q17, .inr (3, [.ref r19, .int 0])), (r19, .inl (cy 0, 40, .inl (fun _ => 0)))]))) := hD
  refine va_astq (D := D) hx hb hK hP hD hS 1 2 12 3 rfl rfl rfl rfl (i := 5) (vp_in_nI (n := 5) (N := 6) (by decide) (by decide)) dn_iShelf6_39 (fun H locs hP hD hS => ?_)
  have hP : va_P D mcl ((h0, .inr (4, [.ref q1, .int 0])) :: ((q1, .inl (cy 2, 6, .inr (.inr (.inr (.inr (va_up (va_up (va_up (va_up (va_up (va_up (fun _ => none) (0 : Int32).toNatClampNeg (some q2)) (1 : Int32).toNatClampNeg (some q5)) (2 : Int32).toNatClampNeg (some q8)) (3 : Int32).toNatClampNeg (some q11)) (4 : Int32).toNatClampNeg (some q14)) (5 : Int32).toNatClampNeg (some q17))))))) :: (((((([] ++ [(q2, .inr (3, [.ref r4, .int 0])), (r4, .inl (cy 0, 40, .inl (fun _ => 0)))]) ++ [(q5, .inr (3, [.ref r7, .int 0])), (r7, .inl (cy 0, 40, .inl (fun _ => 0)))]) ++ [(q8, .inr (3, [.ref r10, .int 0])), (r10, .inl (cy 0, 40, .inl (fun _ => 0)))]) ++ [(q11, .inr (3, [.ref r13, .int 0])), (r13, .inl (cy 0, 40, .inl (fun _ => 0)))]) ++ [(q14, .inr (3, [.ref r16, .int 0])), (r16, .inl (cy 0, 40, .inl (fun _ => 0)))]) ++ [(q17, .inr (3, [.ref r19, .int 0])), (r19, .inl (cy 0, 40, .inl (fun _ => 0)))]))) _ := hP
  have hD : va_D A ((h0, .inr (4, [.ref q1, .int 0])) :: ((q1, .inl (cy 2, 6, .inr (.inr (.inr (.inr (va_up (va_up (va_up (va_up (va_up (va_up (fun _ => none) (0 : Int32).toNatClampNeg (some q2)) (1 : Int32).toNatClampNeg (some q5)) (2 : Int32).toNatClampNeg (some q8)) (3 : Int32).toNatClampNeg (some q11)) (4 : Int32).toNatClampNeg (some q14)) (5 : Int32).toNatClampNeg (some q17))))))) :: (((((([] ++ [(q2, .inr (3, [.ref r4, .int 0])), (r4, .inl (cy 0, 40, .inl (fun _ => 0)))]) ++ [(q5, .inr (3, [.ref r7, .int 0])), (r7, .inl (cy 0, 40, .inl (fun _ => 0)))]) ++ [(q8, .inr (3, [.ref r10, .int 0])), (r10, .inl (cy 0, 40, .inl (fun _ => 0)))]) ++ [(q11, .inr (3, [.ref r13, .int 0])), (r13, .inl (cy 0, 40, .inl (fun _ => 0)))]) ++ [(q14, .inr (3, [.ref r16, .int 0])), (r16, .inl (cy 0, 40, .inl (fun _ => 0)))]) ++ [(q17, .inr (3, [.ref r19, .int 0])), (r19, .inl (cy 0, 40, .inl (fun _ => 0)))]))) := hD
  refine lv_iinc (v := 6) (lv' := [(2, .int 6), (0, .ref h0), (1, .int 6)]) hx hb dn_iShelf6_40 hl (k := 0) rfl (by decide) (by decide) rfl (fun ls hl => ?_)
  refine lv_goto (tgt := 18) hx hb dn_iShelf6_43 (by decide) ?_
  refine lv_iload_n hx hb dn_iShelf6_18 rfl (lv_at hl 0 rfl) ?_
  refine lv_aload_n hx hb dn_iShelf6_19 rfl (lv_at hl 1 rfl) ?_
  refine va_get (D := D) (ci := 4) (v := .ref q1) (C := RX4) (T := TX4) (N := 2) hx hb hts inX4 hown hK hP 0 rfl rfl 0 (by decide) (hts (.fieldLink RX4 15 "ZigzagPieces$Shelf" "rows" "[LZigzagPieces$Row;") (Tb_at 109 rfl rfl)) (fun _ h9 => h9) rfl dn_iShelf6_20 ?_
  refine va_alen hx hb hK hP 1 2 rfl rfl rfl dn_iShelf6_23 ?_
  refine W.eq (g2 := F0 m 24 ls [.int 6, .int 6]) rfl ?_
  refine lv_icmp_ge (tgt := 46) hx hb dn_iShelf6_24 (by decide) (fun _ => ?_) (fun c => absurd (by decide) c)
  refine W.widen (k := 13) (n := 258) (Nat.le_of_ble_eq_true rfl) (Nat.le_of_ble_eq_true rfl) ?_
  exact W.vret hx hb hr (fun t ht hW => ⟨⟨_, rfl, ⟨_, _, _, _, _, _, _, _, _, _, _, _, _, rfl⟩, by rw [ht]; exact hP, va_K.moved hW.alike hK, hD⟩, hS.F ht⟩) hS.2.2 dn_iShelf6_46
def R_Shelf20 (cy : Nat → Nat) (h0 : Nat) (w : va_W) : Prop := ∃ q0 q1 q2 q3 q4 : Nat, w = [(h0, .inr (4, [.ref q0, .int 0])), (q0, .inl (cy 2, 2, .inr (.inr (.inr (.inr (va_up (va_up (fun _ => none) (0 : Int32).toNatClampNeg (some q1)) (1 : Int32).toNatClampNeg (some q3))))))), (q1, .inr (3, [.ref q2, .int 0])), (q2, .inl (cy 0, 40, .inl (fun _ => 0))), (q3, .inr (3, [.ref q4, .int 0])), (q4, .inl (cy 0, 40, .inl (fun _ => 0)))]
theorem dn_iShelf2_0 : decode prog_6_method_1_code 0 = .ok (.aload_n 0, 1) := by decide +kernel
theorem dn_iShelf2_1 : decode prog_6_method_1_code 1 = .ok (.invokespecial 1, 3) := by decide +kernel
theorem dn_iShelf2_4 : decode prog_6_method_1_code 4 = .ok (.aload_n 0, 1) := by decide +kernel
theorem dn_iShelf2_5 : decode prog_6_method_1_code 5 = .ok (.iload_n 1, 1) := by decide +kernel
theorem dn_iShelf2_6 : decode prog_6_method_1_code 6 = .ok (.iconst 1, 1) := by decide +kernel
theorem dn_iShelf2_7 : decode prog_6_method_1_code 7 = .ok (.invokestatic 7, 3) := by decide +kernel
theorem dn_iShelf2_10 : decode prog_6_method_1_code 10 = .ok (.anewarray 13, 3) := by decide +kernel
theorem dn_iShelf2_13 : decode prog_6_method_1_code 13 = .ok (.putfield 15, 3) := by decide +kernel
theorem dn_iShelf2_16 : decode prog_6_method_1_code 16 = .ok (.iconst 0, 1) := by decide +kernel
theorem dn_iShelf2_17 : decode prog_6_method_1_code 17 = .ok (.istore_n 2, 1) := by decide +kernel
theorem dn_iShelf2_18 : decode prog_6_method_1_code 18 = .ok (.iload_n 2, 1) := by decide +kernel
theorem dn_iShelf2_19 : decode prog_6_method_1_code 19 = .ok (.aload_n 0, 1) := by decide +kernel
theorem dn_iShelf2_20 : decode prog_6_method_1_code 20 = .ok (.getfield 15, 3) := by decide +kernel
theorem dn_iShelf2_23 : decode prog_6_method_1_code 23 = .ok (.arraylength, 1) := by decide +kernel
theorem dn_iShelf2_24 : decode prog_6_method_1_code 24 = .ok (.if_icmp .ge 22, 3) := by decide +kernel
theorem dn_iShelf2_27 : decode prog_6_method_1_code 27 = .ok (.aload_n 0, 1) := by decide +kernel
theorem dn_iShelf2_28 : decode prog_6_method_1_code 28 = .ok (.getfield 15, 3) := by decide +kernel
theorem dn_iShelf2_31 : decode prog_6_method_1_code 31 = .ok (.iload_n 2, 1) := by decide +kernel
theorem dn_iShelf2_32 : decode prog_6_method_1_code 32 = .ok (.new 13, 3) := by decide +kernel
theorem dn_iShelf2_35 : decode prog_6_method_1_code 35 = .ok (.dup, 1) := by decide +kernel
theorem dn_iShelf2_36 : decode prog_6_method_1_code 36 = .ok (.invokespecial 21, 3) := by decide +kernel
theorem dn_iShelf2_39 : decode prog_6_method_1_code 39 = .ok (.aastore, 1) := by decide +kernel
theorem dn_iShelf2_40 : decode prog_6_method_1_code 40 = .ok (.iinc 2 1, 3) := by decide +kernel
theorem dn_iShelf2_43 : decode prog_6_method_1_code 43 = .ok (.goto (-25), 3) := by decide +kernel
theorem dn_iShelf2_46 : decode prog_6_method_1_code 46 = .ok (.return_, 1) := by decide +kernel
set_option maxHeartbeats 4000000 in
set_option maxRecDepth 100000 in
theorem n_iShelf2 (l : Launch) (D : va_G) (cy : Nat → Nat) (h0 sz : Nat) : Met l ⟨"ZigzagPieces$Shelf", "<init>", "(I)V"⟩ (.code ⟨"ZigzagPieces$Shelf", "<init>", "(I)V"⟩ prog_6_method_1_code 3 none :: Tb) ({ frames := 2, cells := 5, slots := 86, locals := 60 }) (nPc D cy [.ref h0, .int 2] [(h0, .inr (4, [.null, .int 0]))] sz) (va_Qv (R_Shelf20 cy h0) (nB D cy (va_A [(h0, .inr (4, [.null, .int 0]))] sz)) (va_A [(h0, .inr (4, [.null, .int 0]))] sz)) 5 86 (va_A [(h0, .inr (4, [.null, .int 0]))] sz) := by
  refine Met.ofW (cc := prog_6_method_1_code) (maxL := 3) (ret := none) (by decide) rfl ?_
  intro p e s m args below meth c s₁ B hml hv
  obtain ⟨rfl, hsz, hP, hK, hD0, hN, hAO⟩ := hv
  have hx := B.exec
  have hb := B.bytes
  have hr := B.returns
  have hts0 := atoms_spec (ws := (.code ⟨"ZigzagPieces$Shelf", "<init>", "(I)V"⟩ prog_6_method_1_code 3 none :: Tb)) B.pre
  have hts : ∀ w ∈ Tb, w.before _ s = true := fun w hw => hts0 w (List.mem_cons_of_mem _ hw)
  have hown : s.vm.findClass RX4 = some m.cls := findClass_of_methodNamed B.named
  have hlocks := B.notSynchronized
  have hin : meth.name = "<init>" := (name_of_methodNamed B.named B.method).1
  subst hsz
  have hD := hD0.self (sz := s.heap.size)
  generalize hAe : va_A [(h0, .inr (4, [.null, .int 0]))] s.heap.size = A at hD ⊢
  have hA : ∀ q : Nat, s.heap.size ≤ q → A q := fun q h => by rw [← hAe]; exact Or.inr h
  have hS : va_S A s.heap s.heap [] := va_S.rf
  have hl := lv_entry ([.ref h0, .int 2]) (n := 3) (Nat.le_of_ble_eq_true rfl)
  rw [lg_entry_eq]
  generalize (lg_sl ([.ref h0, .int 2]) ++ List.replicate (3 - (lg_sl ([.ref h0, .int 2])).length) Slot.unset).toArray = ls at hl ⊢
  have hl : lv_has ls 3 [(0, .ref h0), (1, .int 2)] := hl
  have hP : va_P D mcl ((h0, .inr (4, [.null, .int 0])) :: []) _ := hP
  have hD : va_D A ((h0, .inr (4, [.null, .int 0])) :: []) := hD
  refine lv_aload_n hx hb dn_iShelf2_0 rfl (lv_at hl 0 rfl) ?_
  refine W.objInit hx hb hown (hts (.methodLink RX4 1 objectInit) (Tb_at 102 rfl rfl)) (hts (.instanceMethod objectInit) (Tb_at 68 rfl rfl)) (hts _ (Tb_at 69 rfl rfl)) rfl (by rw [hml]; exact hl.1) rfl dn_iShelf2_1 (Nat.le_of_ble_eq_true rfl) (Nat.le_of_ble_eq_true rfl) ?_
  refine W.eq (g2 := F0 m 4 ls []) rfl ?_
  refine lv_aload_n hx hb dn_iShelf2_4 rfl (lv_at hl 0 rfl) ?_
  refine lv_iload_n hx hb dn_iShelf2_5 rfl (lv_at hl 1 rfl) ?_
  refine lv_iconst (v := 1) hx hb dn_iShelf2_6 (by decide) ?_
  refine va_mmax hx hb (by rw [hml]; exact hl.1.symm) hown (hts _ (Tb_at 103 rfl rfl)) (hts _ (Tb_at 104 rfl rfl)) (hts _ (Tb_at 50 rfl rfl)) (hts _ (Tb_at 105 rfl rfl)) (Nat.le_of_ble_eq_true rfl) (Nat.le_of_ble_eq_true rfl) (Nat.le_of_ble_eq_true rfl) (Nat.le_of_ble_eq_true rfl) dn_iShelf2_7 ?_
  refine W.eq (g2 := F0 m 10 ls [.int 2, .ref h0]) rfl ?_
  refine va_newq hx hb hown (hts (.classLink RX4 13 RX3) (Tb_at 106 rfl rfl)) hAO hK hP hD hS hA (by decide) (N' := 2) (by decide) (by decide) (Nat.le_of_ble_eq_true rfl) (Nat.le_of_ble_eq_true rfl) dn_iShelf2_10 (fun q1 cA H hKn hP hD hS => ?_)
  have ecA : cA = cy 2 := cy_eq2 hK (nK_last hKn)
  subst ecA
  have hP : va_P D mcl ((h0, .inr (4, [.null, .int 0])) :: ((q1, .inl (cy 2, 2, .inr (.inr (.inr (.inr (fun _ => none)))))) :: [])) _ := hP
  have hD : va_D A ((h0, .inr (4, [.null, .int 0])) :: ((q1, .inl (cy 2, 2, .inr (.inr (.inr (.inr (fun _ => none)))))) :: [])) := hD
  refine W.widen (k := 1) (n := 2) (Nat.le_of_ble_eq_true rfl) (Nat.le_of_ble_eq_true rfl) ?_
  refine va_putF (D := D) (ci := 4) (v := .ref q1) (ty := .array (.object "ZigzagPieces$Row")) (C := RX4) (T := TX4) (N := 2) hx hb hts inX4 tyX4 tyX4_ok nmX4 hown hK hP hD hS 0 rfl rfl 0 (by decide) (hts (.fieldLink RX4 15 "ZigzagPieces$Shelf" "rows" "[LZigzagPieces$Row;") (Tb_at 109 rfl rfl)) (fun _ h9 => h9) rfl hin rfl (by decide +kernel) rfl rfl (Nat.le_of_ble_eq_true rfl) dn_iShelf2_13 (fun H locs hP hD hS => ?_)
  have hP : va_P D mcl ((h0, .inr (4, [.ref q1, .int 0])) :: ((q1, .inl (cy 2, 2, .inr (.inr (.inr (.inr (fun _ => none)))))) :: [])) _ := hP
  have hD : va_D A ((h0, .inr (4, [.ref q1, .int 0])) :: ((q1, .inl (cy 2, 2, .inr (.inr (.inr (.inr (fun _ => none)))))) :: [])) := hD
  refine lv_iconst (v := 0) hx hb dn_iShelf2_16 (by decide) ?_
  refine lv_istore_n (lv' := [(2, .int 0), (0, .ref h0), (1, .int 2)]) hx hb dn_iShelf2_17 rfl hl (by decide) rfl (fun ls hl => ?_)
  refine lv_iload_n hx hb dn_iShelf2_18 rfl (lv_at hl 0 rfl) ?_
  refine lv_aload_n hx hb dn_iShelf2_19 rfl (lv_at hl 1 rfl) ?_
  refine va_get (D := D) (ci := 4) (v := .ref q1) (C := RX4) (T := TX4) (N := 2) hx hb hts inX4 hown hK hP 0 rfl rfl 0 (by decide) (hts (.fieldLink RX4 15 "ZigzagPieces$Shelf" "rows" "[LZigzagPieces$Row;") (Tb_at 109 rfl rfl)) (fun _ h9 => h9) rfl dn_iShelf2_20 ?_
  refine va_alen hx hb hK hP 1 2 rfl rfl rfl dn_iShelf2_23 ?_
  refine W.eq (g2 := F0 m 24 ls [.int 2, .int 0]) rfl ?_
  refine lv_icmp_ge (tgt := 46) hx hb dn_iShelf2_24 (by decide) (fun c => absurd c (by decide)) (fun _ => ?_)
  refine lv_aload_n hx hb dn_iShelf2_27 rfl (lv_at hl 1 rfl) ?_
  refine va_get (D := D) (ci := 4) (v := .ref q1) (C := RX4) (T := TX4) (N := 2) hx hb hts inX4 hown hK hP 0 rfl rfl 0 (by decide) (hts (.fieldLink RX4 15 "ZigzagPieces$Shelf" "rows" "[LZigzagPieces$Row;") (Tb_at 109 rfl rfl)) (fun _ h9 => h9) rfl dn_iShelf2_28 ?_
  refine lv_iload_n hx hb dn_iShelf2_31 rfl (lv_at hl 0 rfl) ?_
  refine va_new (ci := 3) (fs := [.null, .int 0]) (C := RX3) (T := TX3) (N := 2) hx hb hts inX3 tyX3 tyX3_ok hown (hts (.classLink RX4 13 RX3) (Tb_at 106 rfl rfl)) (hts (.instantiable RX3 2) (Tb_at 85 rfl rfl)) (hts (.initialized RX3) (Tb_at 48 rfl rfl)) hK hP hD hS hA rfl (fun j hj => by rcases (show j = 0 ∨ j = 1 by omega) with rfl | rfl <;> rfl) (Nat.le_of_ble_eq_true rfl) (Nat.le_of_ble_eq_true rfl) dn_iShelf2_32 (fun q2 H hP hD hS => ?_)
  have hP : va_P D mcl ((h0, .inr (4, [.ref q1, .int 0])) :: (((q1, .inl (cy 2, 2, .inr (.inr (.inr (.inr (fun _ => none)))))) :: []) ++ [(q2, .inr (3, [.null, .int 0]))])) _ := hP
  have hD : va_D A ((h0, .inr (4, [.ref q1, .int 0])) :: (((q1, .inl (cy 2, 2, .inr (.inr (.inr (.inr (fun _ => none)))))) :: []) ++ [(q2, .inr (3, [.null, .int 0]))])) := hD
  refine W.widen (k := 2) (n := 4) (Nat.le_of_ble_eq_true rfl) (Nat.le_of_ble_eq_true rfl) ?_
  refine lv_dup hx hb dn_iShelf2_35 rfl ?_
  have hP : va_P D mcl (((h0, .inr (4, [.ref q1, .int 0])) :: ((q1, .inl (cy 2, 2, .inr (.inr (.inr (.inr (fun _ => none)))))) :: [])) ++ [(q2, .inr (3, [.null, .int 0]))]) _ := hP
  have hD : va_D A (((h0, .inr (4, [.ref q1, .int 0])) :: ((q1, .inl (cy 2, 2, .inr (.inr (.inr (.inr (fun _ => none)))))) :: [])) ++ [(q2, .inr (3, [.null, .int 0]))]) := hD
  have hFc := new_free hD hS hA
  refine new_call hP hD hS hA hFc (va_runIN (cc := prog_6_method_1_code) (nL := 3) (Ts := Tb) (own := RX4) (bytes := prog_5_method_1_code) (maxL := 1) (As := []) (rest := [.ref q2, .int 0, .ref q1]) ⟨hx, hb, hml, hown, hts⟩ (n_iRow l D cy q2 _ ) ⟨va_cnB 0 hts (mGood (Tb_at 88 rfl rfl)) rfl rfl rfl (hN _ (Nb_at 108 rfl rfl)) (hts (.initialized RX3) (Tb_at 48 rfl rfl)) ⟨by decide, by decide, by decide +kernel⟩ ⟨Nat.le_of_ble_eq_true rfl, Nat.le_of_ble_eq_true rfl⟩, rfl, hts _ (Tb_at 87 rfl rfl)⟩ ⟨nPc_blind, new_pre hP hD hK hN hAO⟩ rfl rfl hl.1 rfl (lv_room (Nat.le_of_ble_eq_true rfl)) dn_iShelf2_36 ⟨Nat.le_of_ble_eq_true rfl, Nat.le_of_ble_eq_true rfl⟩) ?_
  intro w3 H locs hRw3 hP hD hS
  obtain ⟨r4, rfl⟩ := hRw3
  have hP : va_P D mcl ((h0, .inr (4, [.ref q1, .int 0])) :: (((q1, .inl (cy 2, 2, .inr (.inr (.inr (.inr (fun _ => none)))))) :: []) ++ [(q2, .inr (3, [.ref r4, .int 0])), (r4, .inl (cy 0, 40, .inl (fun _ => 0)))])) _ := hP
  have hD : va_D A ((h0, .inr (4, [.ref q1, .int 0])) :: (((q1, .inl (cy 2, 2, .inr (.inr (.inr (.inr (fun _ => none)))))) :: []) ++ [(q2, .inr (3, [.ref r4, .int 0])), (r4, .inl (cy 0, 40, .inl (fun _ => 0)))])) := hD
  refine W.widen (k := 3) (n := 44) (Nat.le_of_ble_eq_true rfl) (Nat.le_of_ble_eq_true rfl) ?_
  have hP : va_P D mcl ((h0, .inr (4, [.ref q1, .int 0])) :: ((q1, .inl (cy 2, 2, .inr (.inr (.inr (.inr (fun _ => none)))))) :: ([] ++ [(q2, .inr (3, [.ref r4, .int 0])), (r4, .inl (cy 0, 40, .inl (fun _ => 0)))]))) _ := hP
  have hD : va_D A ((h0, .inr (4, [.ref q1, .int 0])) :: ((q1, .inl (cy 2, 2, .inr (.inr (.inr (.inr (fun _ => none)))))) :: ([] ++ [(q2, .inr (3, [.ref r4, .int 0])), (r4, .inl (cy 0, 40, .inl (fun _ => 0)))]))) := hD
  refine va_astq (D := D) hx hb hK hP hD hS 1 2 2 3 rfl rfl rfl rfl (i := 0) (vp_in_nI (n := 0) (N := 2) (by decide) (by decide)) dn_iShelf2_39 (fun H locs hP hD hS => ?_)
  have hP : va_P D mcl ((h0, .inr (4, [.ref q1, .int 0])) :: ((q1, .inl (cy 2, 2, .inr (.inr (.inr (.inr (va_up (fun _ => none) (0 : Int32).toNatClampNeg (some q2))))))) :: ([] ++ [(q2, .inr (3, [.ref r4, .int 0])), (r4, .inl (cy 0, 40, .inl (fun _ => 0)))]))) _ := hP
  have hD : va_D A ((h0, .inr (4, [.ref q1, .int 0])) :: ((q1, .inl (cy 2, 2, .inr (.inr (.inr (.inr (va_up (fun _ => none) (0 : Int32).toNatClampNeg (some q2))))))) :: ([] ++ [(q2, .inr (3, [.ref r4, .int 0])), (r4, .inl (cy 0, 40, .inl (fun _ => 0)))]))) := hD
  refine lv_iinc (v := 1) (lv' := [(2, .int 1), (0, .ref h0), (1, .int 2)]) hx hb dn_iShelf2_40 hl (k := 0) rfl (by decide) (by decide) rfl (fun ls hl => ?_)
  refine lv_goto (tgt := 18) hx hb dn_iShelf2_43 (by decide) ?_
  refine lv_iload_n hx hb dn_iShelf2_18 rfl (lv_at hl 0 rfl) ?_
  refine lv_aload_n hx hb dn_iShelf2_19 rfl (lv_at hl 1 rfl) ?_
  refine va_get (D := D) (ci := 4) (v := .ref q1) (C := RX4) (T := TX4) (N := 2) hx hb hts inX4 hown hK hP 0 rfl rfl 0 (by decide) (hts (.fieldLink RX4 15 "ZigzagPieces$Shelf" "rows" "[LZigzagPieces$Row;") (Tb_at 109 rfl rfl)) (fun _ h9 => h9) rfl dn_iShelf2_20 ?_
  refine va_alen hx hb hK hP 1 2 rfl rfl rfl dn_iShelf2_23 ?_
  refine W.eq (g2 := F0 m 24 ls [.int 2, .int 1]) rfl ?_
  refine lv_icmp_ge (tgt := 46) hx hb dn_iShelf2_24 (by decide) (fun c => absurd c (by decide)) (fun _ => ?_)
  refine lv_aload_n hx hb dn_iShelf2_27 rfl (lv_at hl 1 rfl) ?_
  refine va_get (D := D) (ci := 4) (v := .ref q1) (C := RX4) (T := TX4) (N := 2) hx hb hts inX4 hown hK hP 0 rfl rfl 0 (by decide) (hts (.fieldLink RX4 15 "ZigzagPieces$Shelf" "rows" "[LZigzagPieces$Row;") (Tb_at 109 rfl rfl)) (fun _ h9 => h9) rfl dn_iShelf2_28 ?_
  refine lv_iload_n hx hb dn_iShelf2_31 rfl (lv_at hl 0 rfl) ?_
  refine va_new (ci := 3) (fs := [.null, .int 0]) (C := RX3) (T := TX3) (N := 2) hx hb hts inX3 tyX3 tyX3_ok hown (hts (.classLink RX4 13 RX3) (Tb_at 106 rfl rfl)) (hts (.instantiable RX3 2) (Tb_at 85 rfl rfl)) (hts (.initialized RX3) (Tb_at 48 rfl rfl)) hK hP hD hS hA rfl (fun j hj => by rcases (show j = 0 ∨ j = 1 by omega) with rfl | rfl <;> rfl) (Nat.le_of_ble_eq_true rfl) (Nat.le_of_ble_eq_true rfl) dn_iShelf2_32 (fun q5 H hP hD hS => ?_)
  have hP : va_P D mcl ((h0, .inr (4, [.ref q1, .int 0])) :: (((q1, .inl (cy 2, 2, .inr (.inr (.inr (.inr (va_up (fun _ => none) (0 : Int32).toNatClampNeg (some q2))))))) :: ([] ++ [(q2, .inr (3, [.ref r4, .int 0])), (r4, .inl (cy 0, 40, .inl (fun _ => 0)))])) ++ [(q5, .inr (3, [.null, .int 0]))])) _ := hP
  have hD : va_D A ((h0, .inr (4, [.ref q1, .int 0])) :: (((q1, .inl (cy 2, 2, .inr (.inr (.inr (.inr (va_up (fun _ => none) (0 : Int32).toNatClampNeg (some q2))))))) :: ([] ++ [(q2, .inr (3, [.ref r4, .int 0])), (r4, .inl (cy 0, 40, .inl (fun _ => 0)))])) ++ [(q5, .inr (3, [.null, .int 0]))])) := hD
  refine W.widen (k := 4) (n := 46) (Nat.le_of_ble_eq_true rfl) (Nat.le_of_ble_eq_true rfl) ?_
  refine lv_dup hx hb dn_iShelf2_35 rfl ?_
  have hP : va_P D mcl (((h0, .inr (4, [.ref q1, .int 0])) :: ((q1, .inl (cy 2, 2, .inr (.inr (.inr (.inr (va_up (fun _ => none) (0 : Int32).toNatClampNeg (some q2))))))) :: ([] ++ [(q2, .inr (3, [.ref r4, .int 0])), (r4, .inl (cy 0, 40, .inl (fun _ => 0)))]))) ++ [(q5, .inr (3, [.null, .int 0]))]) _ := hP
  have hD : va_D A (((h0, .inr (4, [.ref q1, .int 0])) :: ((q1, .inl (cy 2, 2, .inr (.inr (.inr (.inr (va_up (fun _ => none) (0 : Int32).toNatClampNeg (some q2))))))) :: ([] ++ [(q2, .inr (3, [.ref r4, .int 0])), (r4, .inl (cy 0, 40, .inl (fun _ => 0)))]))) ++ [(q5, .inr (3, [.null, .int 0]))]) := hD
  have hFc := new_free hD hS hA
  refine new_call hP hD hS hA hFc (va_runIN (cc := prog_6_method_1_code) (nL := 3) (Ts := Tb) (own := RX4) (bytes := prog_5_method_1_code) (maxL := 1) (As := []) (rest := [.ref q5, .int 1, .ref q1]) ⟨hx, hb, hml, hown, hts⟩ (n_iRow l D cy q5 _ ) ⟨va_cnB 0 hts (mGood (Tb_at 88 rfl rfl)) rfl rfl rfl (hN _ (Nb_at 108 rfl rfl)) (hts (.initialized RX3) (Tb_at 48 rfl rfl)) ⟨by decide, by decide, by decide +kernel⟩ ⟨Nat.le_of_ble_eq_true rfl, Nat.le_of_ble_eq_true rfl⟩, rfl, hts _ (Tb_at 87 rfl rfl)⟩ ⟨nPc_blind, new_pre hP hD hK hN hAO⟩ rfl rfl hl.1 rfl (lv_room (Nat.le_of_ble_eq_true rfl)) dn_iShelf2_36 ⟨Nat.le_of_ble_eq_true rfl, Nat.le_of_ble_eq_true rfl⟩) ?_
  intro w6 H locs hRw6 hP hD hS
  obtain ⟨r7, rfl⟩ := hRw6
  have hP : va_P D mcl ((h0, .inr (4, [.ref q1, .int 0])) :: (((q1, .inl (cy 2, 2, .inr (.inr (.inr (.inr (va_up (fun _ => none) (0 : Int32).toNatClampNeg (some q2))))))) :: ([] ++ [(q2, .inr (3, [.ref r4, .int 0])), (r4, .inl (cy 0, 40, .inl (fun _ => 0)))])) ++ [(q5, .inr (3, [.ref r7, .int 0])), (r7, .inl (cy 0, 40, .inl (fun _ => 0)))])) _ := hP
  have hD : va_D A ((h0, .inr (4, [.ref q1, .int 0])) :: (((q1, .inl (cy 2, 2, .inr (.inr (.inr (.inr (va_up (fun _ => none) (0 : Int32).toNatClampNeg (some q2))))))) :: ([] ++ [(q2, .inr (3, [.ref r4, .int 0])), (r4, .inl (cy 0, 40, .inl (fun _ => 0)))])) ++ [(q5, .inr (3, [.ref r7, .int 0])), (r7, .inl (cy 0, 40, .inl (fun _ => 0)))])) := hD
  refine W.widen (k := 5) (n := 86) (Nat.le_of_ble_eq_true rfl) (Nat.le_of_ble_eq_true rfl) ?_
  have hP : va_P D mcl ((h0, .inr (4, [.ref q1, .int 0])) :: ((q1, .inl (cy 2, 2, .inr (.inr (.inr (.inr (va_up (fun _ => none) (0 : Int32).toNatClampNeg (some q2))))))) :: (([] ++ [(q2, .inr (3, [.ref r4, .int 0])), (r4, .inl (cy 0, 40, .inl (fun _ => 0)))]) ++ [(q5, .inr (3, [.ref r7, .int 0])), (r7, .inl (cy 0, 40, .inl (fun _ => 0)))]))) _ := hP
  have hD : va_D A ((h0, .inr (4, [.ref q1, .int 0])) :: ((q1, .inl (cy 2, 2, .inr (.inr (.inr (.inr (va_up (fun _ => none) (0 : Int32).toNatClampNeg (some q2))))))) :: (([] ++ [(q2, .inr (3, [.ref r4, .int 0])), (r4, .inl (cy 0, 40, .inl (fun _ => 0)))]) ++ [(q5, .inr (3, [.ref r7, .int 0])), (r7, .inl (cy 0, 40, .inl (fun _ => 0)))]))) := hD
  refine va_astq (D := D) hx hb hK hP hD hS 1 2 4 3 rfl rfl rfl rfl (i := 1) (vp_in_nI (n := 1) (N := 2) (by decide) (by decide)) dn_iShelf2_39 (fun H locs hP hD hS => ?_)
  have hP : va_P D mcl ((h0, .inr (4, [.ref q1, .int 0])) :: ((q1, .inl (cy 2, 2, .inr (.inr (.inr (.inr (va_up (va_up (fun _ => none) (0 : Int32).toNatClampNeg (some q2)) (1 : Int32).toNatClampNeg (some q5))))))) :: (([] ++ [(q2, .inr (3, [.ref r4, .int 0])), (r4, .inl (cy 0, 40, .inl (fun _ => 0)))]) ++ [(q5, .inr (3, [.ref r7, .int 0])), (r7, .inl (cy 0, 40, .inl (fun _ => 0)))]))) _ := hP
  have hD : va_D A ((h0, .inr (4, [.ref q1, .int 0])) :: ((q1, .inl (cy 2, 2, .inr (.inr (.inr (.inr (va_up (va_up (fun _ => none) (0 : Int32).toNatClampNeg (some q2)) (1 : Int32).toNatClampNeg (some q5))))))) :: (([] ++ [(q2, .inr (3, [.ref r4, .int 0])), (r4, .inl (cy 0, 40, .inl (fun _ => 0)))]) ++ [(q5, .inr (3, [.ref r7, .int 0])), (r7, .inl (cy 0, 40, .inl (fun _ => 0)))]))) := hD
  refine lv_iinc (v := 2) (lv' := [(2, .int 2), (0, .ref h0), (1, .int 2)]) hx hb dn_iShelf2_40 hl (k := 0) rfl (by decide) (by decide) rfl (fun ls hl => ?_)
  refine lv_goto (tgt := 18) hx hb dn_iShelf2_43 (by decide) ?_
  refine lv_iload_n hx hb dn_iShelf2_18 rfl (lv_at hl 0 rfl) ?_
  refine lv_aload_n hx hb dn_iShelf2_19 rfl (lv_at hl 1 rfl) ?_
  refine va_get (D := D) (ci := 4) (v := .ref q1) (C := RX4) (T := TX4) (N := 2) hx hb hts inX4 hown hK hP 0 rfl rfl 0 (by decide) (hts (.fieldLink RX4 15 "ZigzagPieces$Shelf" "rows" "[LZigzagPieces$Row;") (Tb_at 109 rfl rfl)) (fun _ h9 => h9) rfl dn_iShelf2_20 ?_
  refine va_alen hx hb hK hP 1 2 rfl rfl rfl dn_iShelf2_23 ?_
  refine W.eq (g2 := F0 m 24 ls [.int 2, .int 2]) rfl ?_
  refine lv_icmp_ge (tgt := 46) hx hb dn_iShelf2_24 (by decide) (fun _ => ?_) (fun c => absurd (by decide) c)
  refine W.widen (k := 5) (n := 86) (Nat.le_of_ble_eq_true rfl) (Nat.le_of_ble_eq_true rfl) ?_
  exact W.vret hx hb hr (fun t ht hW => ⟨⟨_, rfl, ⟨_, _, _, _, _, rfl⟩, by rw [ht]; exact hP, va_K.moved hW.alike hK, hD⟩, hS.F ht⟩) hS.2.2 dn_iShelf2_46
