/-! the text that the class begins with: its length, its letters -/
def bytL : List Int32 := [118, 48, 59, 118, 49, 59, 118, 50, 59, 101, 48, 49, 59, 118, 51, 59, 101, 49, 50, 59, 102, 48, 49, 59, 101, 50, 51, 59, 119, 48, 59, 118, 48, 59, 101, 48, 51, 59, 102, 50, 51, 59, 101, 48, 49, 59, 102, 49, 50, 59, 119, 50, 59]
def JS (adK adV : Nat → Nat) (A : Nat → Prop) (U : State) (H : Heap) : Prop := vk_S 1 [53] [bytL] adK adV A U H ∧ va_Z "java/lang/String" "COMPACT_STRINGS" "Z" (.int 1) A U H ∧ va_Zq "jdk/internal/util/Preconditions" "SIOOBE_FORMATTER" "Ljava/util/function/BiFunction;" A U H
theorem JS.moved {adK adV : Nat → Nat} {A : Nat → Prop} {u U : State} {H : Heap} (hvm : u.vm.Alike U.vm) (h : JS adK adV A u H) : JS adK adV A U H := ⟨vk_S.moved hvm h.1, va_Z.moved hvm h.2.1, va_Zq.moved hvm h.2.2⟩
theorem JS.kept {adK adV : Nat → Nat} {A : Nat → Prop} {U : State} {H H1 : Heap} (h : JS adK adV A U H) (hq : ∀ a : Nat, a < H.size → ¬ A a → H1[a]? = H[a]?) : JS adK adV A U H1 := ⟨vk_S.kept h.1 hq, va_Z.kept h.2.1 hq, va_Zq.kept h.2.2 hq⟩
theorem JS.narrow {adK adV : Nat → Nat} {A B : Nat → Prop} {U : State} {H : Heap} (h : JS adK adV A U H) (hAB : ∀ q, B q → A q) : JS adK adV B U H := ⟨vk_S.narrow h.1 hAB, va_Z.narrow h.2.1 hAB, va_Zq.narrow h.2.2 hAB⟩
abbrev F_ : Nat → Prop := fun _ => False
theorem JS_blind {adK adV : Nat → Nat} {a : List Value} : FrameBlind (va_Pc a (fun U => JS adK adV F_ U U.heap)) := fun _ U _ _ q => ⟨q.1, JS.moved (u := U) (Vm.Alike.refl U.vm) q.2⟩
theorem JS_pre {s : State} {H : Heap} {adK adV : Nat → Nat} {A : Nat → Prop} {locs : List Loc} {a : List Value} (hJ : JS adK adV A s s.heap) (hS : va_S A s.heap H locs) : ∀ U : State, U.heap = H → s.WarmedH U.vm → va_Pc a (fun U => JS adK adV F_ U U.heap) a.toArray U :=
  fun U hU hW => ⟨rfl, by show JS adK adV F_ U U.heap; rw [hU]; exact JS.moved hW.alike (JS.narrow (JS.kept hJ hS.2.1) (fun _ z => z.elim))⟩
theorem T_blind {a : List Value} : FrameBlind (va_Pc a (fun _ => True)) := fun _ U _ _ q => ⟨q.1, trivial⟩
def chI (k : Nat) : Int32 := (((bytL.getD k 0) &&& 255).toUInt32 % 65536).toInt32
set_option maxRecDepth 100000 in
theorem ch_ok : ∀ k : Fin 53, chI k.val = nI (ftx k.val) ∧ narrow .char (.int (chI k.val)) = .int (chI k.val) := by decide +kernel
theorem ds_coder_0 : decode prog_13_method_152_code 0 = .ok (.getstatic 38, 3) := by decide +kernel
theorem ds_coder_3 : decode prog_13_method_152_code 3 = .ok (.ifCond .eq 10, 3) := by decide +kernel
theorem ds_coder_6 : decode prog_13_method_152_code 6 = .ok (.aload_n 0, 1) := by decide +kernel
theorem ds_coder_7 : decode prog_13_method_152_code 7 = .ok (.getfield 15, 3) := by decide +kernel
theorem ds_coder_10 : decode prog_13_method_152_code 10 = .ok (.goto 4, 3) := by decide +kernel
theorem ds_coder_13 : decode prog_13_method_152_code 13 = .ok (.iconst 1, 1) := by decide +kernel
theorem ds_coder_14 : decode prog_13_method_152_code 14 = .ok (.ireturn, 1) := by decide +kernel
set_option maxHeartbeats 4000000 in
set_option maxRecDepth 100000 in
theorem s_coder (l : Launch) (adK adV : Nat → Nat)  : Met l ⟨"java/lang/String", "coder", "()B"⟩ (.code ⟨"java/lang/String", "coder", "()B"⟩ prog_13_method_152_code 1 (some .byte) :: Tb) ({ frames := 1, cells := 0, slots := 0, locals := 30 }) (va_Pc [.ref (adK 0)] (fun U => JS adK adV F_ U U.heap)) (va_Qi (S := Unit) (fun r _ => r = 0) (fun _ _ => True) F_) 0 0 F_ := by
  refine Met.ofW (cc := prog_13_method_152_code) (maxL := 1) (ret := (some .byte)) (by decide) rfl ?_
  intro p e s m args below meth c s₁ B hml hv
  obtain ⟨rfl, hJ⟩ := hv
  have hx := B.exec
  have hb := B.bytes
  have hr := B.returns
  have hts0 := atoms_spec (ws := (.code ⟨"java/lang/String", "coder", "()B"⟩ prog_13_method_152_code 1 (some .byte) :: Tb)) B.pre
  have hts : ∀ w ∈ Tb, w.before _ s = true := fun w hw => hts0 w (List.mem_cons_of_mem _ hw)
  have hown : s.vm.findClass "java/lang/String" = some m.cls := findClass_of_methodNamed B.named
  have hlocks := B.notSynchronized
  have hS : va_S F_ s.heap s.heap [] := va_S.rf
  have hl := lv_entry ([.ref (adK 0)]) (n := 1) (Nat.le_of_ble_eq_true rfl)
  rw [lg_entry_eq]
  generalize (lg_sl ([.ref (adK 0)]) ++ List.replicate (1 - (lg_sl ([.ref (adK 0)])).length) Slot.unset).toArray = ls at hl ⊢
  have hl : lv_has ls 1 [(0, .ref (adK 0))] := hl
  refine va_gets hx hb hJ.2.1 hS hown (hts (.fieldLink "java/lang/String" 38 "java/lang/String" "COMPACT_STRINGS" "Z") (Tb_at 198 rfl rfl)) (fun _ h9 => h9) ds_coder_0 ?_
  refine lv_if_eq (tgt := 13) hx hb ds_coder_3 (by decide) (fun c => absurd c (by decide)) (fun _ => ?_)
  refine lv_aload_n hx hb ds_coder_6 rfl (lv_at hl 0 rfl) ?_
  refine vk_getf hx hb (hJ.1.1 0 (by decide)).2.1 hS hown (hts (.fieldLink "java/lang/String" 15 "java/lang/String" "coder" "B") (Tb_at 1021 rfl rfl)) (fun _ h9 => h9) ds_coder_7 ?_
  refine lv_goto (tgt := 14) hx hb ds_coder_10 (by decide) ?_
  exact W.zret (v := 0) (ty := .byte) hx hb hr rfl (fun t ht hW => ⟨⟨_, (), rfl, rfl, trivial⟩, hS.F ht⟩) hS.2.2 ds_coder_14
theorem ds_lat_0 : decode prog_13_method_154_code 0 = .ok (.getstatic 38, 3) := by decide +kernel
theorem ds_lat_3 : decode prog_13_method_154_code 3 = .ok (.ifCond .eq 14, 3) := by decide +kernel
theorem ds_lat_6 : decode prog_13_method_154_code 6 = .ok (.aload_n 0, 1) := by decide +kernel
theorem ds_lat_7 : decode prog_13_method_154_code 7 = .ok (.getfield 15, 3) := by decide +kernel
theorem ds_lat_10 : decode prog_13_method_154_code 10 = .ok (.ifCond .ne 7, 3) := by decide +kernel
theorem ds_lat_13 : decode prog_13_method_154_code 13 = .ok (.iconst 1, 1) := by decide +kernel
theorem ds_lat_14 : decode prog_13_method_154_code 14 = .ok (.goto 4, 3) := by decide +kernel
theorem ds_lat_17 : decode prog_13_method_154_code 17 = .ok (.iconst 0, 1) := by decide +kernel
theorem ds_lat_18 : decode prog_13_method_154_code 18 = .ok (.ireturn, 1) := by decide +kernel
set_option maxHeartbeats 4000000 in
set_option maxRecDepth 100000 in
theorem s_lat (l : Launch) (adK adV : Nat → Nat)  : Met l ⟨"java/lang/String", "isLatin1", "()Z"⟩ (.code ⟨"java/lang/String", "isLatin1", "()Z"⟩ prog_13_method_154_code 1 (some .boolean) :: Tb) ({ frames := 1, cells := 0, slots := 0, locals := 30 }) (va_Pc [.ref (adK 0)] (fun U => JS adK adV F_ U U.heap)) (va_Qi (S := Unit) (fun r _ => r = 1) (fun _ _ => True) F_) 0 0 F_ := by
  refine Met.ofW (cc := prog_13_method_154_code) (maxL := 1) (ret := (some .boolean)) (by decide) rfl ?_
  intro p e s m args below meth c s₁ B hml hv
  obtain ⟨rfl, hJ⟩ := hv
  have hx := B.exec
  have hb := B.bytes
  have hr := B.returns
  have hts0 := atoms_spec (ws := (.code ⟨"java/lang/String", "isLatin1", "()Z"⟩ prog_13_method_154_code 1 (some .boolean) :: Tb)) B.pre
  have hts : ∀ w ∈ Tb, w.before _ s = true := fun w hw => hts0 w (List.mem_cons_of_mem _ hw)
  have hown : s.vm.findClass "java/lang/String" = some m.cls := findClass_of_methodNamed B.named
  have hlocks := B.notSynchronized
  have hS : va_S F_ s.heap s.heap [] := va_S.rf
  have hl := lv_entry ([.ref (adK 0)]) (n := 1) (Nat.le_of_ble_eq_true rfl)
  rw [lg_entry_eq]
  generalize (lg_sl ([.ref (adK 0)]) ++ List.replicate (1 - (lg_sl ([.ref (adK 0)])).length) Slot.unset).toArray = ls at hl ⊢
  have hl : lv_has ls 1 [(0, .ref (adK 0))] := hl
  refine va_gets hx hb hJ.2.1 hS hown (hts (.fieldLink "java/lang/String" 38 "java/lang/String" "COMPACT_STRINGS" "Z") (Tb_at 198 rfl rfl)) (fun _ h9 => h9) ds_lat_0 ?_
  refine lv_if_eq (tgt := 17) hx hb ds_lat_3 (by decide) (fun c => absurd c (by decide)) (fun _ => ?_)
  refine lv_aload_n hx hb ds_lat_6 rfl (lv_at hl 0 rfl) ?_
  refine vk_getf hx hb (hJ.1.1 0 (by decide)).2.1 hS hown (hts (.fieldLink "java/lang/String" 15 "java/lang/String" "coder" "B") (Tb_at 1021 rfl rfl)) (fun _ h9 => h9) ds_lat_7 ?_
  refine lv_if_ne (tgt := 17) hx hb ds_lat_10 (by decide) (fun c => absurd rfl c) (fun _ => ?_)
  refine lv_iconst (v := 1) hx hb ds_lat_13 (by decide) ?_
  refine lv_goto (tgt := 18) hx hb ds_lat_14 (by decide) ?_
  exact W.zret (v := 1) (ty := .boolean) hx hb hr rfl (fun t ht hW => ⟨⟨_, (), rfl, rfl, trivial⟩, hS.F ht⟩) hS.2.2 ds_lat_18
theorem ds_length_0 : decode prog_13_method_54_code 0 = .ok (.aload_n 0, 1) := by decide +kernel
theorem ds_length_1 : decode prog_13_method_54_code 1 = .ok (.getfield 9, 3) := by decide +kernel
theorem ds_length_4 : decode prog_13_method_54_code 4 = .ok (.arraylength, 1) := by decide +kernel
theorem ds_length_5 : decode prog_13_method_54_code 5 = .ok (.aload_n 0, 1) := by decide +kernel
theorem ds_length_6 : decode prog_13_method_54_code 6 = .ok (.invokevirtual 335, 3) := by decide +kernel
theorem ds_length_9 : decode prog_13_method_54_code 9 = .ok (.ishr, 1) := by decide +kernel
theorem ds_length_10 : decode prog_13_method_54_code 10 = .ok (.ireturn, 1) := by decide +kernel
set_option maxHeartbeats 4000000 in
set_option maxRecDepth 100000 in
theorem s_length (l : Launch) (adK adV : Nat → Nat)  : Met l ⟨"java/lang/String", "length", "()I"⟩ (.code ⟨"java/lang/String", "length", "()I"⟩ prog_13_method_54_code 1 (some .int) :: Tb) ({ frames := 2, cells := 0, slots := 0, locals := 60 }) (va_Pc [.ref (adK 0)] (fun U => JS adK adV F_ U U.heap)) (va_Qi (S := Unit) (fun r _ => r = 53) (fun _ _ => True) F_) 0 0 F_ := by
  refine Met.ofW (cc := prog_13_method_54_code) (maxL := 1) (ret := (some .int)) (by decide) rfl ?_
  intro p e s m args below meth c s₁ B hml hv
  obtain ⟨rfl, hJ⟩ := hv
  have hx := B.exec
  have hb := B.bytes
  have hr := B.returns
  have hts0 := atoms_spec (ws := (.code ⟨"java/lang/String", "length", "()I"⟩ prog_13_method_54_code 1 (some .int) :: Tb)) B.pre
  have hts : ∀ w ∈ Tb, w.before _ s = true := fun w hw => hts0 w (List.mem_cons_of_mem _ hw)
  have hown : s.vm.findClass "java/lang/String" = some m.cls := findClass_of_methodNamed B.named
  have hlocks := B.notSynchronized
  have hS : va_S F_ s.heap s.heap [] := va_S.rf
  have hl := lv_entry ([.ref (adK 0)]) (n := 1) (Nat.le_of_ble_eq_true rfl)
  rw [lg_entry_eq]
  generalize (lg_sl ([.ref (adK 0)]) ++ List.replicate (1 - (lg_sl ([.ref (adK 0)])).length) Slot.unset).toArray = ls at hl ⊢
  have hl : lv_has ls 1 [(0, .ref (adK 0))] := hl
  refine lv_aload_n hx hb ds_length_0 rfl (lv_at hl 0 rfl) ?_
  refine vk_getf hx hb (hJ.1.1 0 (by decide)).2.2.1 hS hown (hts (.fieldLink "java/lang/String" 9 "java/lang/String" "value" "[B") (Tb_at 1020 rfl rfl)) (fun _ h9 => h9) ds_length_1 ?_
  refine va_tlen hx hb (hJ.1.1 0 (by decide)).2.2.2 hS (v := 53) rfl ds_length_4 ?_
  refine lv_aload_n hx hb ds_length_5 rfl (lv_at hl 0 rfl) ?_
  refine va_calli (va_runV (cc := prog_13_method_54_code) (nL := 1) (Ts := Tb) (own := "java/lang/String") (C := "java/lang/String") (bytes := prog_13_method_152_code) (maxL := 1) (As := []) (rest := [.int 53]) ⟨hx, hb, hml, hown, hts⟩ (s_coder l adK adV) ⟨callB_of 0 hts (mGood (Tb_at 197 rfl rfl)) rfl rfl rfl (hts (.initialized "java/lang/String") (Tb_at 55 rfl rfl)) (hts _ (Tb_at 194 rfl rfl)) ⟨by decide, by decide, by decide +kernel⟩ ⟨Nat.le_of_ble_eq_true rfl, Nat.le_of_ble_eq_true rfl⟩, hts _ (Tb_at 195 rfl rfl), hts _ (Tb_at 196 rfl rfl)⟩ ⟨JS_blind, vk_recv hJ.1 (i := 0) (by decide) hS, JS_pre hJ hS⟩ rfl rfl hl.1 rfl (lv_room (Nat.le_of_ble_eq_true rfl)) ds_length_6 ⟨Nat.le_of_ble_eq_true rfl, Nat.le_of_ble_eq_true rfl⟩) hS (fun q _ h => h) (fun q h => h) (fun r u t H1 locs1 ht hvm hw hB hz1 hk1 hS => ?_)
  subst hw
  refine lv_ishr hx hb ds_length_9 ?_
  refine W.eq (g2 := F0 m 10 ls [.int 53]) rfl ?_
  exact W.iret (v := 53) hx hb hr (fun t ht hW => ⟨⟨_, (), rfl, rfl, trivial⟩, hS.F ht⟩) hS.2.2 ds_length_10
theorem ds_pre_0 : decode prog_17_method_11_code 0 = .ok (.iload_n 0, 1) := by decide +kernel
theorem ds_pre_1 : decode prog_17_method_11_code 1 = .ok (.ifCond .lt 8, 3) := by decide +kernel
theorem ds_pre_4 : decode prog_17_method_11_code 4 = .ok (.iload_n 0, 1) := by decide +kernel
theorem ds_pre_5 : decode prog_17_method_11_code 5 = .ok (.iload_n 1, 1) := by decide +kernel
theorem ds_pre_6 : decode prog_17_method_11_code 6 = .ok (.if_icmp .lt 10, 3) := by decide +kernel
theorem ds_pre_9 : decode prog_17_method_11_code 9 = .ok (.aload_n 2, 1) := by decide +kernel
theorem ds_pre_10 : decode prog_17_method_11_code 10 = .ok (.iload_n 0, 1) := by decide +kernel
theorem ds_pre_11 : decode prog_17_method_11_code 11 = .ok (.iload_n 1, 1) := by decide +kernel
theorem ds_pre_12 : decode prog_17_method_11_code 12 = .ok (.invokestatic 95, 3) := by decide +kernel
theorem ds_pre_15 : decode prog_17_method_11_code 15 = .ok (.athrow, 1) := by decide +kernel
theorem ds_pre_16 : decode prog_17_method_11_code 16 = .ok (.iload_n 0, 1) := by decide +kernel
theorem ds_pre_17 : decode prog_17_method_11_code 17 = .ok (.ireturn, 1) := by decide +kernel
set_option maxHeartbeats 4000000 in
set_option maxRecDepth 100000 in
theorem s_pre (l : Launch) {k : Nat} (hk : k < 53) (t : Nat)  : Met l ⟨"jdk/internal/util/Preconditions", "checkIndex", "(IILjava/util/function/BiFunction;)I"⟩ (.code ⟨"jdk/internal/util/Preconditions", "checkIndex", "(IILjava/util/function/BiFunction;)I"⟩ prog_17_method_11_code 3 (some .int) :: Tb) ({ frames := 0, cells := 0, slots := 0, locals := 0 }) (va_Pc [.int (nI k), .int 53, .ref t] (fun _ => True)) (va_Qi (S := Unit) (fun r _ => r = nI k) (fun _ _ => True) F_) 0 0 F_ := by
  refine Met.ofW (cc := prog_17_method_11_code) (maxL := 3) (ret := (some .int)) (by decide) rfl ?_
  intro p e s m args below meth c s₁ B hml hv
  obtain ⟨rfl, hJ⟩ := hv
  have hx := B.exec
  have hb := B.bytes
  have hr := B.returns
  have hts0 := atoms_spec (ws := (.code ⟨"jdk/internal/util/Preconditions", "checkIndex", "(IILjava/util/function/BiFunction;)I"⟩ prog_17_method_11_code 3 (some .int) :: Tb)) B.pre
  have hts : ∀ w ∈ Tb, w.before _ s = true := fun w hw => hts0 w (List.mem_cons_of_mem _ hw)
  have hown : s.vm.findClass "jdk/internal/util/Preconditions" = some m.cls := findClass_of_methodNamed B.named
  have hlocks := B.notSynchronized
  have hS : va_S F_ s.heap s.heap [] := va_S.rf
  have hl := lv_entry ([.int (nI k), .int 53, .ref t]) (n := 3) (Nat.le_of_ble_eq_true rfl)
  rw [lg_entry_eq]
  generalize (lg_sl ([.int (nI k), .int 53, .ref t]) ++ List.replicate (3 - (lg_sl ([.int (nI k), .int 53, .ref t])).length) Slot.unset).toArray = ls at hl ⊢
  have hl : lv_has ls 3 [(0, .int (nI k)), (1, .int 53), (2, .ref t)] := hl
  refine lv_iload_n hx hb ds_pre_0 rfl (lv_at hl 0 rfl) ?_
  refine lv_if_lt (tgt := 9) hx hb ds_pre_1 (by decide) (fun c => absurd c (Int32.not_lt.mpr (nI_pos' (by omega)))) (fun _ => ?_)
  refine lv_iload_n hx hb ds_pre_4 rfl (lv_at hl 0 rfl) ?_
  refine lv_iload_n hx hb ds_pre_5 rfl (lv_at hl 1 rfl) ?_
  refine lv_icmp_lt (tgt := 16) hx hb ds_pre_6 (by decide) (fun _ => ?_) (fun c => absurd ((nI_ltI (b := 53) (by omega) (by decide)).mpr hk) c)
  refine lv_iload_n hx hb ds_pre_16 rfl (lv_at hl 0 rfl) ?_
  exact W.iret (v := nI k) hx hb hr (fun t ht hW => ⟨⟨_, (), rfl, rfl, trivial⟩, hS.F ht⟩) hS.2.2 ds_pre_17
set_option maxHeartbeats 4000000 in
set_option maxRecDepth 100000 in
theorem s_pre_r (l : Launch) {k : Nat} (hk : k < 53)   : Met l ⟨"jdk/internal/util/Preconditions", "checkIndex", "(IILjava/util/function/BiFunction;)I"⟩ (.code ⟨"jdk/internal/util/Preconditions", "checkIndex", "(IILjava/util/function/BiFunction;)I"⟩ prog_17_method_11_code 3 (some .int) :: Tb) ({ frames := 0, cells := 0, slots := 0, locals := 0 }) (va_Pc [.int (nI k), .int 53, .null] (fun _ => True)) (va_Qi (S := Unit) (fun r _ => r = nI k) (fun _ _ => True) F_) 0 0 F_ := by
  refine Met.ofW (cc := prog_17_method_11_code) (maxL := 3) (ret := (some .int)) (by decide) rfl ?_
  intro p e s m args below meth c s₁ B hml hv
  obtain ⟨rfl, hJ⟩ := hv
  have hx := B.exec
  have hb := B.bytes
  have hr := B.returns
  have hts0 := atoms_spec (ws := (.code ⟨"jdk/internal/util/Preconditions", "checkIndex", "(IILjava/util/function/BiFunction;)I"⟩ prog_17_method_11_code 3 (some .int) :: Tb)) B.pre
  have hts : ∀ w ∈ Tb, w.before _ s = true := fun w hw => hts0 w (List.mem_cons_of_mem _ hw)
  have hown : s.vm.findClass "jdk/internal/util/Preconditions" = some m.cls := findClass_of_methodNamed B.named
  have hlocks := B.notSynchronized
  have hS : va_S F_ s.heap s.heap [] := va_S.rf
  have hl := lv_entry ([.int (nI k), .int 53, .null]) (n := 3) (Nat.le_of_ble_eq_true rfl)
  rw [lg_entry_eq]
  generalize (lg_sl ([.int (nI k), .int 53, .null]) ++ List.replicate (3 - (lg_sl ([.int (nI k), .int 53, .null])).length) Slot.unset).toArray = ls at hl ⊢
  have hl : lv_has ls 3 [(0, .int (nI k)), (1, .int 53), (2, .null)] := hl
  refine lv_iload_n hx hb ds_pre_0 rfl (lv_at hl 0 rfl) ?_
  refine lv_if_lt (tgt := 9) hx hb ds_pre_1 (by decide) (fun c => absurd c (Int32.not_lt.mpr (nI_pos' (by omega)))) (fun _ => ?_)
  refine lv_iload_n hx hb ds_pre_4 rfl (lv_at hl 0 rfl) ?_
  refine lv_iload_n hx hb ds_pre_5 rfl (lv_at hl 1 rfl) ?_
  refine lv_icmp_lt (tgt := 16) hx hb ds_pre_6 (by decide) (fun _ => ?_) (fun c => absurd ((nI_ltI (b := 53) (by omega) (by decide)).mpr hk) c)
  refine lv_iload_n hx hb ds_pre_16 rfl (lv_at hl 0 rfl) ?_
  exact W.iret (v := nI k) hx hb hr (fun t ht hW => ⟨⟨_, (), rfl, rfl, trivial⟩, hS.F ht⟩) hS.2.2 ds_pre_17
theorem ds_chk_0 : decode prog_13_method_155_code 0 = .ok (.iload_n 0, 1) := by decide +kernel
theorem ds_chk_1 : decode prog_13_method_155_code 1 = .ok (.iload_n 1, 1) := by decide +kernel
theorem ds_chk_2 : decode prog_13_method_155_code 2 = .ok (.getstatic 1053, 3) := by decide +kernel
theorem ds_chk_5 : decode prog_13_method_155_code 5 = .ok (.invokestatic 1059, 3) := by decide +kernel
theorem ds_chk_8 : decode prog_13_method_155_code 8 = .ok (.pop, 1) := by decide +kernel
theorem ds_chk_9 : decode prog_13_method_155_code 9 = .ok (.return_, 1) := by decide +kernel
set_option maxHeartbeats 4000000 in
set_option maxRecDepth 100000 in
theorem s_chk (l : Launch) (adK adV : Nat → Nat) {k : Nat} (hk : k < 53)  : Met l ⟨"java/lang/String", "checkIndex", "(II)V"⟩ (.code ⟨"java/lang/String", "checkIndex", "(II)V"⟩ prog_13_method_155_code 2 none :: Tb) ({ frames := 1, cells := 0, slots := 0, locals := 30 }) (va_Pc [.int (nI k), .int 53] (fun U => JS adK adV F_ U U.heap)) (va_Qv (S := Unit) (fun _ => True) (fun _ _ => True) F_) 0 0 F_ := by
  refine Met.ofW (cc := prog_13_method_155_code) (maxL := 2) (ret := none) (by decide) rfl ?_
  intro p e s m args below meth c s₁ B hml hv
  obtain ⟨rfl, hJ⟩ := hv
  have hx := B.exec
  have hb := B.bytes
  have hr := B.returns
  have hts0 := atoms_spec (ws := (.code ⟨"java/lang/String", "checkIndex", "(II)V"⟩ prog_13_method_155_code 2 none :: Tb)) B.pre
  have hts : ∀ w ∈ Tb, w.before _ s = true := fun w hw => hts0 w (List.mem_cons_of_mem _ hw)
  have hown : s.vm.findClass "java/lang/String" = some m.cls := findClass_of_methodNamed B.named
  have hlocks := B.notSynchronized
  have hS : va_S F_ s.heap s.heap [] := va_S.rf
  have hl := lv_entry ([.int (nI k), .int 53]) (n := 2) (Nat.le_of_ble_eq_true rfl)
  rw [lg_entry_eq]
  generalize (lg_sl ([.int (nI k), .int 53]) ++ List.replicate (2 - (lg_sl ([.int (nI k), .int 53])).length) Slot.unset).toArray = ls at hl ⊢
  have hl : lv_has ls 2 [(0, .int (nI k)), (1, .int 53)] := hl
  refine lv_iload_n hx hb ds_chk_0 rfl (lv_at hl 0 rfl) ?_
  refine lv_iload_n hx hb ds_chk_1 rfl (lv_at hl 1 rfl) ?_
  rcases hJ.2.2 with hz | ⟨t, hz⟩
  · skip
    refine va_gets hx hb hz hS hown (hts (.fieldLink "java/lang/String" 1053 "jdk/internal/util/Preconditions" "SIOOBE_FORMATTER" "Ljava/util/function/BiFunction;") (Tb_at 214 rfl rfl)) (fun _ h9 => h9) ds_chk_2 ?_
    refine va_calli (va_runS (cc := prog_13_method_155_code) (nL := 2) (Ts := Tb) (own := "java/lang/String") (bytes := prog_17_method_11_code) (maxL := 3) (rest := []) ⟨hx, hb, hml, hown, hts⟩ (s_pre_r l hk) ⟨callB_of 3 hts (mGood (Tb_at 218 rfl rfl)) rfl rfl rfl (hts (.initialized "jdk/internal/util/Preconditions") (Tb_at 57 rfl rfl)) (hts _ (Tb_at 216 rfl rfl)) ⟨by decide, by decide, by decide +kernel⟩ ⟨Nat.le_of_ble_eq_true rfl, Nat.le_of_ble_eq_true rfl⟩, hts _ (Tb_at 217 rfl rfl)⟩ ⟨T_blind, fun U hU hW => ⟨rfl, trivial⟩⟩ rfl rfl hl.1 rfl (lv_room (Nat.le_of_ble_eq_true rfl)) ds_chk_5 ⟨Nat.le_of_ble_eq_true rfl, Nat.le_of_ble_eq_true rfl⟩) hS (fun q _ h => h) (fun q h => h) (fun r u t H1 locs1 ht hvm hw hB hz1 hk1 hS => ?_)
    subst hw
    refine lv_pop hx hb ds_chk_8 rfl ?_
    exact W.vret hx hb hr (fun t ht hW => ⟨⟨(), rfl, trivial, trivial⟩, hS.F ht⟩) hS.2.2 ds_chk_9
  · skip
    refine va_gets hx hb hz hS hown (hts (.fieldLink "java/lang/String" 1053 "jdk/internal/util/Preconditions" "SIOOBE_FORMATTER" "Ljava/util/function/BiFunction;") (Tb_at 214 rfl rfl)) (fun _ h9 => h9) ds_chk_2 ?_
    refine va_calli (va_runS (cc := prog_13_method_155_code) (nL := 2) (Ts := Tb) (own := "java/lang/String") (bytes := prog_17_method_11_code) (maxL := 3) (rest := []) ⟨hx, hb, hml, hown, hts⟩ (s_pre l hk t) ⟨callB_of 3 hts (mGood (Tb_at 218 rfl rfl)) rfl rfl rfl (hts (.initialized "jdk/internal/util/Preconditions") (Tb_at 57 rfl rfl)) (hts _ (Tb_at 216 rfl rfl)) ⟨by decide, by decide, by decide +kernel⟩ ⟨Nat.le_of_ble_eq_true rfl, Nat.le_of_ble_eq_true rfl⟩, hts _ (Tb_at 217 rfl rfl)⟩ ⟨T_blind, fun U hU hW => ⟨rfl, trivial⟩⟩ rfl rfl hl.1 rfl (lv_room (Nat.le_of_ble_eq_true rfl)) ds_chk_5 ⟨Nat.le_of_ble_eq_true rfl, Nat.le_of_ble_eq_true rfl⟩) hS (fun q _ h => h) (fun q h => h) (fun r u t H1 locs1 ht hvm hw hB hz1 hk1 hS => ?_)
    subst hw
    refine lv_pop hx hb ds_chk_8 rfl ?_
    exact W.vret hx hb hr (fun t ht hW => ⟨⟨(), rfl, trivial, trivial⟩, hS.F ht⟩) hS.2.2 ds_chk_9
theorem ds_latc_0 : decode prog_14_method_2_code 0 = .ok (.iload_n 1, 1) := by decide +kernel
theorem ds_latc_1 : decode prog_14_method_2_code 1 = .ok (.aload_n 0, 1) := by decide +kernel
theorem ds_latc_2 : decode prog_14_method_2_code 2 = .ok (.arraylength, 1) := by decide +kernel
theorem ds_latc_3 : decode prog_14_method_2_code 3 = .ok (.invokestatic 9, 3) := by decide +kernel
theorem ds_latc_6 : decode prog_14_method_2_code 6 = .ok (.aload_n 0, 1) := by decide +kernel
theorem ds_latc_7 : decode prog_14_method_2_code 7 = .ok (.iload_n 1, 1) := by decide +kernel
theorem ds_latc_8 : decode prog_14_method_2_code 8 = .ok (.baload, 1) := by decide +kernel
theorem ds_latc_9 : decode prog_14_method_2_code 9 = .ok (.sipush 255, 3) := by decide +kernel
theorem ds_latc_12 : decode prog_14_method_2_code 12 = .ok (.iand, 1) := by decide +kernel
theorem ds_latc_13 : decode prog_14_method_2_code 13 = .ok (.i2c, 1) := by decide +kernel
theorem ds_latc_14 : decode prog_14_method_2_code 14 = .ok (.ireturn, 1) := by decide +kernel
set_option maxHeartbeats 4000000 in
set_option maxRecDepth 100000 in
theorem s_latc (l : Launch) (adK adV : Nat → Nat) {k : Nat} (hk : k < 53)  : Met l ⟨"java/lang/StringLatin1", "charAt", "([BI)C"⟩ (.code ⟨"java/lang/StringLatin1", "charAt", "([BI)C"⟩ prog_14_method_2_code 2 (some .char) :: Tb) ({ frames := 2, cells := 0, slots := 0, locals := 60 }) (va_Pc [.ref (adV 0), .int (nI k)] (fun U => JS adK adV F_ U U.heap)) (va_Qi (S := Unit) (fun r _ => r = chI k) (fun _ _ => True) F_) 0 0 F_ := by
  refine Met.ofW (cc := prog_14_method_2_code) (maxL := 2) (ret := (some .char)) (by decide) rfl ?_
  intro p e s m args below meth c s₁ B hml hv
  obtain ⟨rfl, hJ⟩ := hv
  have hx := B.exec
  have hb := B.bytes
  have hr := B.returns
  have hts0 := atoms_spec (ws := (.code ⟨"java/lang/StringLatin1", "charAt", "([BI)C"⟩ prog_14_method_2_code 2 (some .char) :: Tb)) B.pre
  have hts : ∀ w ∈ Tb, w.before _ s = true := fun w hw => hts0 w (List.mem_cons_of_mem _ hw)
  have hown : s.vm.findClass "java/lang/StringLatin1" = some m.cls := findClass_of_methodNamed B.named
  have hlocks := B.notSynchronized
  have hS : va_S F_ s.heap s.heap [] := va_S.rf
  have hl := lv_entry ([.ref (adV 0), .int (nI k)]) (n := 2) (Nat.le_of_ble_eq_true rfl)
  rw [lg_entry_eq]
  generalize (lg_sl ([.ref (adV 0), .int (nI k)]) ++ List.replicate (2 - (lg_sl ([.ref (adV 0), .int (nI k)])).length) Slot.unset).toArray = ls at hl ⊢
  have hl : lv_has ls 2 [(0, .ref (adV 0)), (1, .int (nI k))] := hl
  refine lv_iload_n hx hb ds_latc_0 rfl (lv_at hl 1 rfl) ?_
  refine lv_aload_n hx hb ds_latc_1 rfl (lv_at hl 0 rfl) ?_
  refine va_tlen hx hb (hJ.1.1 0 (by decide)).2.2.2 hS (v := 53) rfl ds_latc_2 ?_
  refine va_callv (va_runS (cc := prog_14_method_2_code) (nL := 2) (Ts := Tb) (own := "java/lang/StringLatin1") (bytes := prog_13_method_155_code) (maxL := 2) (rest := []) ⟨hx, hb, hml, hown, hts⟩ (s_chk l adK adV hk) ⟨callB_of 2 hts (mGood (Tb_at 213 rfl rfl)) rfl rfl rfl (hts (.initialized "java/lang/String") (Tb_at 55 rfl rfl)) (hts _ (Tb_at 211 rfl rfl)) ⟨by decide, by decide, by decide +kernel⟩ ⟨Nat.le_of_ble_eq_true rfl, Nat.le_of_ble_eq_true rfl⟩, hts _ (Tb_at 212 rfl rfl)⟩ ⟨JS_blind, JS_pre hJ hS⟩ rfl rfl hl.1 rfl (lv_room (Nat.le_of_ble_eq_true rfl)) ds_latc_3 ⟨Nat.le_of_ble_eq_true rfl, Nat.le_of_ble_eq_true rfl⟩) hS (fun q _ h => h) (fun q h => h) (fun u t H1 locs1 ht hvm hw hB hz1 hk1 hS => ?_)
  refine lv_aload_n hx hb ds_latc_6 rfl (lv_at hl 0 rfl) ?_
  refine lv_iload_n hx hb ds_latc_7 rfl (lv_at hl 1 rfl) ?_
  refine va_tb hx hb (hJ.1.1 0 (by decide)).2.2.2 hS (vp_in_nI hk (by decide)) (v := .int (bytL.getD k 0)) (by rw [nI_clamp (by omega)]; rfl) ds_latc_8 ?_
  refine lv_sipush (v := 255) hx hb ds_latc_9 (by decide) ?_
  refine lv_iand hx hb ds_latc_12 ?_
  refine lv_i2c (v := chI k) hx hb ds_latc_13 rfl ?_
  exact W.zret (v := chI k) (ty := .char) hx hb hr (ch_ok ⟨k, hk⟩).2 (fun t ht hW => ⟨⟨_, (), rfl, rfl, trivial⟩, hS.F ht⟩) hS.2.2 ds_latc_14
theorem ds_charAt_0 : decode prog_13_method_56_code 0 = .ok (.aload_n 0, 1) := by decide +kernel
theorem ds_charAt_1 : decode prog_13_method_56_code 1 = .ok (.invokevirtual 492, 3) := by decide +kernel
theorem ds_charAt_4 : decode prog_13_method_56_code 4 = .ok (.ifCond .eq 12, 3) := by decide +kernel
theorem ds_charAt_7 : decode prog_13_method_56_code 7 = .ok (.aload_n 0, 1) := by decide +kernel
theorem ds_charAt_8 : decode prog_13_method_56_code 8 = .ok (.getfield 9, 3) := by decide +kernel
theorem ds_charAt_11 : decode prog_13_method_56_code 11 = .ok (.iload_n 1, 1) := by decide +kernel
theorem ds_charAt_12 : decode prog_13_method_56_code 12 = .ok (.invokestatic 495, 3) := by decide +kernel
theorem ds_charAt_15 : decode prog_13_method_56_code 15 = .ok (.ireturn, 1) := by decide +kernel
theorem ds_charAt_16 : decode prog_13_method_56_code 16 = .ok (.aload_n 0, 1) := by decide +kernel
theorem ds_charAt_17 : decode prog_13_method_56_code 17 = .ok (.getfield 9, 3) := by decide +kernel
theorem ds_charAt_20 : decode prog_13_method_56_code 20 = .ok (.iload_n 1, 1) := by decide +kernel
theorem ds_charAt_21 : decode prog_13_method_56_code 21 = .ok (.invokestatic 498, 3) := by decide +kernel
theorem ds_charAt_24 : decode prog_13_method_56_code 24 = .ok (.ireturn, 1) := by decide +kernel
set_option maxHeartbeats 4000000 in
set_option maxRecDepth 100000 in
theorem s_charAt (l : Launch) (adK adV : Nat → Nat) {k : Nat} (hk : k < 53)  : Met l ⟨"java/lang/String", "charAt", "(I)C"⟩ (.code ⟨"java/lang/String", "charAt", "(I)C"⟩ prog_13_method_56_code 2 (some .char) :: Tb) ({ frames := 3, cells := 0, slots := 0, locals := 90 }) (va_Pc [.ref (adK 0), .int (nI k)] (fun U => JS adK adV F_ U U.heap)) (va_Qi (S := Unit) (fun r _ => r = chI k) (fun _ _ => True) F_) 0 0 F_ := by
  refine Met.ofW (cc := prog_13_method_56_code) (maxL := 2) (ret := (some .char)) (by decide) rfl ?_
  intro p e s m args below meth c s₁ B hml hv
  obtain ⟨rfl, hJ⟩ := hv
  have hx := B.exec
  have hb := B.bytes
  have hr := B.returns
  have hts0 := atoms_spec (ws := (.code ⟨"java/lang/String", "charAt", "(I)C"⟩ prog_13_method_56_code 2 (some .char) :: Tb)) B.pre
  have hts : ∀ w ∈ Tb, w.before _ s = true := fun w hw => hts0 w (List.mem_cons_of_mem _ hw)
  have hown : s.vm.findClass "java/lang/String" = some m.cls := findClass_of_methodNamed B.named
  have hlocks := B.notSynchronized
  have hS : va_S F_ s.heap s.heap [] := va_S.rf
  have hl := lv_entry ([.ref (adK 0), .int (nI k)]) (n := 2) (Nat.le_of_ble_eq_true rfl)
  rw [lg_entry_eq]
  generalize (lg_sl ([.ref (adK 0), .int (nI k)]) ++ List.replicate (2 - (lg_sl ([.ref (adK 0), .int (nI k)])).length) Slot.unset).toArray = ls at hl ⊢
  have hl : lv_has ls 2 [(0, .ref (adK 0)), (1, .int (nI k))] := hl
  refine lv_aload_n hx hb ds_charAt_0 rfl (lv_at hl 0 rfl) ?_
  refine va_calli (va_runV (cc := prog_13_method_56_code) (nL := 2) (Ts := Tb) (own := "java/lang/String") (C := "java/lang/String") (bytes := prog_13_method_154_code) (maxL := 1) (As := []) (rest := []) ⟨hx, hb, hml, hown, hts⟩ (s_lat l adK adV) ⟨callB_of 0 hts (mGood (Tb_at 207 rfl rfl)) rfl rfl rfl (hts (.initialized "java/lang/String") (Tb_at 55 rfl rfl)) (hts _ (Tb_at 204 rfl rfl)) ⟨by decide, by decide, by decide +kernel⟩ ⟨Nat.le_of_ble_eq_true rfl, Nat.le_of_ble_eq_true rfl⟩, hts _ (Tb_at 205 rfl rfl), hts _ (Tb_at 206 rfl rfl)⟩ ⟨JS_blind, vk_recv hJ.1 (i := 0) (by decide) hS, JS_pre hJ hS⟩ rfl rfl hl.1 rfl (lv_room (Nat.le_of_ble_eq_true rfl)) ds_charAt_1 ⟨Nat.le_of_ble_eq_true rfl, Nat.le_of_ble_eq_true rfl⟩) hS (fun q _ h => h) (fun q h => h) (fun r u t H1 locs1 ht hvm hw hB hz1 hk1 hS => ?_)
  subst hw
  refine lv_if_eq (tgt := 16) hx hb ds_charAt_4 (by decide) (fun c => absurd c (by decide)) (fun _ => ?_)
  refine lv_aload_n hx hb ds_charAt_7 rfl (lv_at hl 0 rfl) ?_
  refine vk_getf hx hb (hJ.1.1 0 (by decide)).2.2.1 hS hown (hts (.fieldLink "java/lang/String" 9 "java/lang/String" "value" "[B") (Tb_at 1020 rfl rfl)) (fun _ h9 => h9) ds_charAt_8 ?_
  refine lv_iload_n hx hb ds_charAt_11 rfl (lv_at hl 1 rfl) ?_
  refine va_calli (va_runS (cc := prog_13_method_56_code) (nL := 2) (Ts := Tb) (own := "java/lang/String") (bytes := prog_14_method_2_code) (maxL := 2) (rest := []) ⟨hx, hb, hml, hown, hts⟩ (s_latc l adK adV hk) ⟨callB_of 2 hts (mGood (Tb_at 210 rfl rfl)) rfl rfl rfl (hts (.initialized "java/lang/StringLatin1") (Tb_at 56 rfl rfl)) (hts _ (Tb_at 208 rfl rfl)) ⟨by decide, by decide, by decide +kernel⟩ ⟨Nat.le_of_ble_eq_true rfl, Nat.le_of_ble_eq_true rfl⟩, hts _ (Tb_at 209 rfl rfl)⟩ ⟨JS_blind, JS_pre hJ hS⟩ rfl rfl hl.1 rfl (lv_room (Nat.le_of_ble_eq_true rfl)) ds_charAt_12 ⟨Nat.le_of_ble_eq_true rfl, Nat.le_of_ble_eq_true rfl⟩) hS (fun q _ h => h) (fun q h => h) (fun r u t H1 locs1 ht hvm hw hB hz1 hk1 hS => ?_)
  subst hw
  exact W.zret (v := chI k) (ty := .char) hx hb hr (ch_ok ⟨k, hk⟩).2 (fun t ht hW => ⟨⟨_, (), rfl, rfl, trivial⟩, hS.F ht⟩) hS.2.2 ds_charAt_15
