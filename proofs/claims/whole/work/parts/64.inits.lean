/-! constructors: leaves -/
def nPc (D : va_G) (cy : Nat → Nat) (a : List Value) (w : va_W) (sz : Nat) : Array Value → State → Prop := va_Pc a (fun U => U.heap.size = sz ∧ va_P D mcl w U.heap ∧ va_K D mcl (mty cy) U ∧ va_D (fun _ => True) w ∧ mNw U ∧ va_AO RX3 U)
def nB (D : va_G) (cy : Nat → Nat) (A : Nat → Prop) (w : va_W) (t : State) : Prop := va_P D mcl w t.heap ∧ va_K D mcl (mty cy) t ∧ va_D A w
theorem nPc_blind {D : va_G} {cy : Nat → Nat} {a : List Value} {w : va_W} {sz : Nat} : FrameBlind (nPc D cy a w sz) := fun _ U _ _ q => by
  obtain ⟨q0, q1, qP, qK, qD, qN, qA⟩ := q
  exact ⟨q0, q1, qP, va_K.moved (u := U) (Vm.Alike.refl U.vm) qK, qD, mNw.same (u := U) (show U.vm = _ from rfl) qN, va_AO.moved (u := U) (Vm.Alike.refl U.vm) qA⟩
theorem nK_last {D : va_G} {cl : List vw_C} {tys : List (ClassId × FieldType)} {x : ClassId × FieldType} {U : State} (h : va_K D cl (tys ++ [x]) U) : va_RA U x.1 x.2 := (h.2 tys.length x (by simp)).2
theorem cy_eq0 {D : va_G} {cl : List vw_C} {cy : Nat → Nat} {U : State} {cA : ClassId} (h : va_K D cl (mty cy) U) (h2 : va_RA U (cA, FieldType.int).1 (cA, FieldType.int).2) : cA = cy 0 := by
  have h1 : va_RA U (cy 0) .int := (h.2 0 (cy 0, .int) rfl).2
  have e1 : U.vm.findClass ("[" ++ FieldType.int.toString) = some (cy 0) := h1
  have e2 : U.vm.findClass ("[" ++ FieldType.int.toString) = some cA := h2
  rw [e1] at e2
  exact (Option.some.inj e2).symm
theorem cy_eq1 {D : va_G} {cl : List vw_C} {cy : Nat → Nat} {U : State} {cA : ClassId} (h : va_K D cl (mty cy) U) (h2 : va_RA U (cA, FieldType.byte).1 (cA, FieldType.byte).2) : cA = cy 1 := by
  have h1 : va_RA U (cy 1) .byte := (h.2 1 (cy 1, .byte) rfl).2
  have e1 : U.vm.findClass ("[" ++ FieldType.byte.toString) = some (cy 1) := h1
  have e2 : U.vm.findClass ("[" ++ FieldType.byte.toString) = some cA := h2
  rw [e1] at e2
  exact (Option.some.inj e2).symm
theorem cy_eq2 {D : va_G} {cl : List vw_C} {cy : Nat → Nat} {U : State} {cA : ClassId} (h : va_K D cl (mty cy) U) (h2 : va_RA U (cA, FieldType.object RX3).1 (cA, FieldType.object RX3).2) : cA = cy 2 := by
  have h1 : va_RA U (cy 2) (.object RX3) := (h.2 2 (cy 2, .object RX3) rfl).2
  obtain ⟨kA, comp, a1, a2, a3, e1⟩ := h1
  obtain ⟨kB, comp2, b1, b2, b3, e2⟩ := h2
  rw [e1] at e2
  exact (Option.some.inj e2).symm
theorem join_app {A0 : Nat → Prop} {D : va_G} {cl : List vw_C} {ws wc w1 : va_W} {H H1 : Heap} (hP : va_P D cl (ws ++ wc) H) (hD : va_D A0 (ws ++ wc)) (hk : ∀ q : Nat, q < H.size → ¬ va_A wc H.size q → H1[q]? = H[q]?) (hF : ∀ q, va_A wc H.size q → A0 q) (hP1 : va_P D cl w1 H1) (hD1 : va_D (va_A wc H.size) w1) : va_P D cl (ws ++ w1) H1 ∧ va_D A0 (ws ++ w1) := by
  have wl : ∀ (k : Nat) (q : Nat × va_E), ws[k]? = some q → k < ws.length ∧ (ws ++ wc)[k]? = some q := fun k q h => by
    have hl := (List.getElem?_eq_some_iff.mp h).1
    exact ⟨hl, by rw [List.getElem?_append_left hl]; exact h⟩
  have apart : ∀ (k : Nat) (q : Nat × va_E), ws[k]? = some q → q.1 < H.size ∧ ¬ va_A wc H.size q.1 := by
    intro k q hq
    obtain ⟨h1, h2⟩ := wl k q hq
    have hl := (hP k q h2).lt
    refine ⟨hl, fun h => ?_⟩
    rcases h with ⟨k2, e, h⟩ | h
    · have h3 : (ws ++ wc)[ws.length + k2]? = some (q.1, e) := by rw [List.getElem?_append_right (by omega), Nat.add_sub_cancel_left]; exact h
      have := hD.1 k (ws.length + k2) q (q.1, e) h2 h3 rfl
      omega
    · omega
  refine ⟨va_P.app (fun k q hq => ?_) hP1, va_D.app ⟨fun i j x y hx hy hxy => hD.1 i j x y (wl i x hx).2 (wl j y hy).2 hxy, fun k q hq => hD.2 k q (wl k q hq).2⟩ (hD1.weaken (fun k q _ h => hF q.1 h)) (fun i j x y hx hy hxy => ?_)⟩
  · obtain ⟨g1, g2⟩ := apart k q hq
    exact (hP k q (wl k q hq).2).kept (hk q.1 g1 g2)
  · exact (apart i x hx).2 (by rw [hxy]; exact hD1.2 j y hy)
theorem new_free {A : Nat → Prop} {ws : va_W} {x : Nat × va_E} {H0 H : Heap} {locs : List Loc} (hD : va_D A (ws ++ [x])) (hS : va_S A H0 H locs) (hA : ∀ q, H0.size ≤ q → A q) : ∀ q, va_A [x] H.size q → A q := by
  intro q hq
  rcases hq with ⟨k, e, h⟩ | h
  · have h3 : (ws ++ [x])[ws.length + k]? = some (q, e) := by rw [List.getElem?_append_right (by omega), Nat.add_sub_cancel_left]; exact h
    exact hD.2 _ _ h3
  · exact hA q (Nat.le_trans hS.1 h)
theorem new_last {D : va_G} {cl : List vw_C} {ws : va_W} {x : Nat × va_E} {H : Heap} (hP : va_P D cl (ws ++ [x]) H) : va_P D cl [x] H := fun k q h => by
  have h3 : (ws ++ [x])[ws.length + k]? = some q := by rw [List.getElem?_append_right (by omega), Nat.add_sub_cancel_left]; exact h
  exact hP _ _ h3
theorem new_lastD {A : Nat → Prop} {ws : va_W} {x : Nat × va_E} (hD : va_D A (ws ++ [x])) : va_D (fun _ => True) [x] := ⟨fun i j p q h1 h2 _ => by
  have l1 := (List.getElem?_eq_some_iff.mp h1).1
  have l2 := (List.getElem?_eq_some_iff.mp h2).1
  simp at l1 l2
  omega, fun _ _ _ => trivial⟩
theorem new_pre {s : State} {H : Heap} {D : va_G} {cy : Nat → Nat} {A : Nat → Prop} {ws : va_W} {x : Nat × va_E} {a : List Value} (hP : va_P D mcl (ws ++ [x]) H) (hD : va_D A (ws ++ [x])) (hK : va_K D mcl (mty cy) s) (hN : mNw s) (hAO : va_AO RX3 s) : ∀ U : State, U.heap = H → s.WarmedH U.vm → nPc D cy a [x] H.size a.toArray U :=
  fun U hU hW => ⟨rfl, by rw [hU], by rw [hU]; exact new_last hP, va_K.moved hW.alike hK, new_lastD hD, mNw.warm hW hN, va_AO.moved hW.alike hAO⟩
section NC
variable {p : Program} {l : Launch} {e : Env} {R : Room} {s : State} {m : MethodId} {args : Array Value} {below : List Frame} {meth : Method} {c : Code} {H : Heap} {locs : List Loc} {cells slots : Nat} {Q : State → Prop}
variable {pc : Nat} {ls : Array Slot} {rest st0 : List Value} {a : Array Value} {A : Nat → Prop} {H0 : Heap} {mc ms : Nat}
theorem new_call {D : va_G} {cy : Nat → Nat} {ws : va_W} {x : Nat × va_E} {P : va_W → Prop} (hP : va_P D mcl (ws ++ [x]) H) (hD : va_D A (ws ++ [x])) (hS : va_S A H0 H locs) (hA : ∀ q, H0.size ≤ q → A q) (hF : ∀ q, va_A [x] H.size q → A q) (hr : va_Run p l e R s m args below meth c H locs cells slots mc ms (F0 m pc ls st0) rest (va_Qv P (nB D cy (va_A [x] H.size)) (va_A [x] H.size) a) (va_A [x] H.size))
    (kk : ∀ (w : va_W) (H1 : Heap) (locs1 : List Loc), P w → va_P D mcl (ws ++ w) H1 → va_D A (ws ++ w) → va_S A H0 H1 locs1 → W p l e R s m args below meth c H1 locs1 (cells + mc) (slots + ms) Q (F0 m (pc + 3) ls rest)) : W p l e R s m args below meth c H locs cells slots Q (F0 m pc ls st0) := by
  refine va_callv hr hS (fun q _ h => hF q h) hF (fun u t H1 locs1 ht hvm hw hB hz1 hk1 hS1 => ?_)
  obtain ⟨hP1, hK1, hD1⟩ := hB
  rw [ht] at hP1
  obtain ⟨j1, j2⟩ := join_app hP hD hk1 hF hP1 hD1
  exact kk u H1 locs1 hw j1 j2 hS1
end NC
def R_Text0 (cy : Nat → Nat) (h0 : Nat) (w : va_W) : Prop := ∃ q0 : Nat, w = [(h0, .inr (6, [.ref q0, .int 0])), (q0, .inl (cy 0, 200, .inl (fun _ => 0)))]
theorem dn_iText_0 : decode prog_8_method_1_code 0 = .ok (.aload_n 0, 1) := by decide +kernel
theorem dn_iText_1 : decode prog_8_method_1_code 1 = .ok (.invokespecial 3, 3) := by decide +kernel
theorem dn_iText_4 : decode prog_8_method_1_code 4 = .ok (.aload_n 0, 1) := by decide +kernel
theorem dn_iText_5 : decode prog_8_method_1_code 5 = .ok (.sipush 200, 3) := by decide +kernel
theorem dn_iText_8 : decode prog_8_method_1_code 8 = .ok (.newarray .int, 2) := by decide +kernel
theorem dn_iText_10 : decode prog_8_method_1_code 10 = .ok (.putfield 9, 3) := by decide +kernel
theorem dn_iText_13 : decode prog_8_method_1_code 13 = .ok (.return_, 1) := by decide +kernel
set_option maxHeartbeats 4000000 in
set_option maxRecDepth 100000 in
theorem n_iText (l : Launch) (D : va_G) (cy : Nat → Nat) (h0 sz : Nat) : Met l ⟨"ZigzagPieces$Text", "<init>", "()V"⟩ (.code ⟨"ZigzagPieces$Text", "<init>", "()V"⟩ prog_8_method_1_code 1 none :: Tb) ({ frames := 1, cells := 1, slots := 200, locals := 30 }) (nPc D cy [.ref h0] [(h0, .inr (6, [.null, .int 0]))] sz) (va_Qv (R_Text0 cy h0) (nB D cy (va_A [(h0, .inr (6, [.null, .int 0]))] sz)) (va_A [(h0, .inr (6, [.null, .int 0]))] sz)) 1 200 (va_A [(h0, .inr (6, [.null, .int 0]))] sz) := by
  refine Met.ofW (cc := prog_8_method_1_code) (maxL := 1) (ret := none) (by decide) rfl ?_
  intro p e s m args below meth c s₁ B hml hv
  obtain ⟨rfl, hsz, hP, hK, hD0, hN, hAO⟩ := hv
  have hx := B.exec
  have hb := B.bytes
  have hr := B.returns
  have hts0 := atoms_spec (ws := (.code ⟨"ZigzagPieces$Text", "<init>", "()V"⟩ prog_8_method_1_code 1 none :: Tb)) B.pre
  have hts : ∀ w ∈ Tb, w.before _ s = true := fun w hw => hts0 w (List.mem_cons_of_mem _ hw)
  have hown : s.vm.findClass RX6 = some m.cls := findClass_of_methodNamed B.named
  have hlocks := B.notSynchronized
  have hin : meth.name = "<init>" := (name_of_methodNamed B.named B.method).1
  subst hsz
  have hD := hD0.self (sz := s.heap.size)
  generalize hAe : va_A [(h0, .inr (6, [.null, .int 0]))] s.heap.size = A at hD ⊢
  have hA : ∀ q : Nat, s.heap.size ≤ q → A q := fun q h => by rw [← hAe]; exact Or.inr h
  have hS : va_S A s.heap s.heap [] := va_S.rf
  have hl := lv_entry ([.ref h0]) (n := 1) (Nat.le_of_ble_eq_true rfl)
  rw [lg_entry_eq]
  generalize (lg_sl ([.ref h0]) ++ List.replicate (1 - (lg_sl ([.ref h0])).length) Slot.unset).toArray = ls at hl ⊢
  have hl : lv_has ls 1 [(0, .ref h0)] := hl
  have hP : va_P D mcl ((h0, .inr (6, [.null, .int 0])) :: []) _ := hP
  have hD : va_D A ((h0, .inr (6, [.null, .int 0])) :: []) := hD
  refine lv_aload_n hx hb dn_iText_0 rfl (lv_at hl 0 rfl) ?_
  refine W.objInit hx hb hown (hts (.methodLink RX6 3 objectInit) (Tb_at 75 rfl rfl)) (hts (.instanceMethod objectInit) (Tb_at 68 rfl rfl)) (hts _ (Tb_at 69 rfl rfl)) rfl (by rw [hml]; exact hl.1) rfl dn_iText_1 (Nat.le_of_ble_eq_true rfl) (Nat.le_of_ble_eq_true rfl) ?_
  refine W.eq (g2 := F0 m 4 ls []) rfl ?_
  refine lv_aload_n hx hb dn_iText_4 rfl (lv_at hl 0 rfl) ?_
  refine lv_sipush (v := 200) hx hb dn_iText_5 (by decide) ?_
  refine va_newa (a0 := (200, .inl (fun _ => 0))) hx hb (hts _ (Tb_at 83 rfl rfl)) (ty := .int) rfl hK hP hD hS hA (fun _ => rfl) (by decide) (N' := 200) (by decide) (by decide) (Nat.le_of_ble_eq_true rfl) (Nat.le_of_ble_eq_true rfl) dn_iText_8 (fun q1 cA H hKn hP hD hS => ?_)
  have ecA : cA = cy 0 := cy_eq0 hK (nK_last hKn)
  subst ecA
  have hP : va_P D mcl ((h0, .inr (6, [.null, .int 0])) :: ([] ++ [(q1, .inl (cy 0, 200, .inl (fun _ => 0)))])) _ := hP
  have hD : va_D A ((h0, .inr (6, [.null, .int 0])) :: ([] ++ [(q1, .inl (cy 0, 200, .inl (fun _ => 0)))])) := hD
  refine W.widen (k := 1) (n := 200) (Nat.le_of_ble_eq_true rfl) (Nat.le_of_ble_eq_true rfl) ?_
  refine va_putF (D := D) (ci := 6) (v := .ref q1) (ty := .array .int) (C := RX6) (T := TX6) (N := 2) hx hb hts inX6 tyX6 tyX6_ok nmX6 hown hK hP hD hS 0 rfl rfl 0 (by decide) (hts (.fieldLink RX6 9 "ZigzagPieces$Text" "letters" "[I") (Tb_at 76 rfl rfl)) (fun _ h9 => h9) rfl hin rfl (by decide +kernel) rfl rfl (Nat.le_of_ble_eq_true rfl) dn_iText_10 (fun H locs hP hD hS => ?_)
  have hP : va_P D mcl ((h0, .inr (6, [.ref q1, .int 0])) :: ([] ++ [(q1, .inl (cy 0, 200, .inl (fun _ => 0)))])) _ := hP
  have hD : va_D A ((h0, .inr (6, [.ref q1, .int 0])) :: ([] ++ [(q1, .inl (cy 0, 200, .inl (fun _ => 0)))])) := hD
  refine W.widen (k := 1) (n := 200) (Nat.le_of_ble_eq_true rfl) (Nat.le_of_ble_eq_true rfl) ?_
  exact W.vret hx hb hr (fun t ht hW => ⟨⟨_, rfl, ⟨_, rfl⟩, by rw [ht]; exact hP, va_K.moved hW.alike hK, hD⟩, hS.F ht⟩) hS.2.2 dn_iText_13
def R_Row0 (cy : Nat → Nat) (h0 : Nat) (w : va_W) : Prop := ∃ q0 : Nat, w = [(h0, .inr (3, [.ref q0, .int 0])), (q0, .inl (cy 0, 40, .inl (fun _ => 0)))]
theorem dn_iRow_0 : decode prog_5_method_1_code 0 = .ok (.aload_n 0, 1) := by decide +kernel
theorem dn_iRow_1 : decode prog_5_method_1_code 1 = .ok (.invokespecial 3, 3) := by decide +kernel
theorem dn_iRow_4 : decode prog_5_method_1_code 4 = .ok (.aload_n 0, 1) := by decide +kernel
theorem dn_iRow_5 : decode prog_5_method_1_code 5 = .ok (.bipush 40, 2) := by decide +kernel
theorem dn_iRow_7 : decode prog_5_method_1_code 7 = .ok (.newarray .int, 2) := by decide +kernel
theorem dn_iRow_9 : decode prog_5_method_1_code 9 = .ok (.putfield 9, 3) := by decide +kernel
theorem dn_iRow_12 : decode prog_5_method_1_code 12 = .ok (.return_, 1) := by decide +kernel
set_option maxHeartbeats 4000000 in
set_option maxRecDepth 100000 in
theorem n_iRow (l : Launch) (D : va_G) (cy : Nat → Nat) (h0 sz : Nat) : Met l ⟨"ZigzagPieces$Row", "<init>", "()V"⟩ (.code ⟨"ZigzagPieces$Row", "<init>", "()V"⟩ prog_5_method_1_code 1 none :: Tb) ({ frames := 1, cells := 1, slots := 40, locals := 30 }) (nPc D cy [.ref h0] [(h0, .inr (3, [.null, .int 0]))] sz) (va_Qv (R_Row0 cy h0) (nB D cy (va_A [(h0, .inr (3, [.null, .int 0]))] sz)) (va_A [(h0, .inr (3, [.null, .int 0]))] sz)) 1 40 (va_A [(h0, .inr (3, [.null, .int 0]))] sz) := by
  refine Met.ofW (cc := prog_5_method_1_code) (maxL := 1) (ret := none) (by decide) rfl ?_
  intro p e s m args below meth c s₁ B hml hv
  obtain ⟨rfl, hsz, hP, hK, hD0, hN, hAO⟩ := hv
  have hx := B.exec
  have hb := B.bytes
  have hr := B.returns
  have hts0 := atoms_spec (ws := (.code ⟨"ZigzagPieces$Row", "<init>", "()V"⟩ prog_5_method_1_code 1 none :: Tb)) B.pre
  have hts : ∀ w ∈ Tb, w.before _ s = true := fun w hw => hts0 w (List.mem_cons_of_mem _ hw)
  have hown : s.vm.findClass RX3 = some m.cls := findClass_of_methodNamed B.named
  have hlocks := B.notSynchronized
  have hin : meth.name = "<init>" := (name_of_methodNamed B.named B.method).1
  subst hsz
  have hD := hD0.self (sz := s.heap.size)
  generalize hAe : va_A [(h0, .inr (3, [.null, .int 0]))] s.heap.size = A at hD ⊢
  have hA : ∀ q : Nat, s.heap.size ≤ q → A q := fun q h => by rw [← hAe]; exact Or.inr h
  have hS : va_S A s.heap s.heap [] := va_S.rf
  have hl := lv_entry ([.ref h0]) (n := 1) (Nat.le_of_ble_eq_true rfl)
  rw [lg_entry_eq]
  generalize (lg_sl ([.ref h0]) ++ List.replicate (1 - (lg_sl ([.ref h0])).length) Slot.unset).toArray = ls at hl ⊢
  have hl : lv_has ls 1 [(0, .ref h0)] := hl
  have hP : va_P D mcl ((h0, .inr (3, [.null, .int 0])) :: []) _ := hP
  have hD : va_D A ((h0, .inr (3, [.null, .int 0])) :: []) := hD
  refine lv_aload_n hx hb dn_iRow_0 rfl (lv_at hl 0 rfl) ?_
  refine W.objInit hx hb hown (hts (.methodLink RX3 3 objectInit) (Tb_at 89 rfl rfl)) (hts (.instanceMethod objectInit) (Tb_at 68 rfl rfl)) (hts _ (Tb_at 69 rfl rfl)) rfl (by rw [hml]; exact hl.1) rfl dn_iRow_1 (Nat.le_of_ble_eq_true rfl) (Nat.le_of_ble_eq_true rfl) ?_
  refine W.eq (g2 := F0 m 4 ls []) rfl ?_
  refine lv_aload_n hx hb dn_iRow_4 rfl (lv_at hl 0 rfl) ?_
  refine lv_bipush (v := 40) hx hb dn_iRow_5 (by decide) ?_
  refine va_newa (a0 := (40, .inl (fun _ => 0))) hx hb (hts _ (Tb_at 83 rfl rfl)) (ty := .int) rfl hK hP hD hS hA (fun _ => rfl) (by decide) (N' := 40) (by decide) (by decide) (Nat.le_of_ble_eq_true rfl) (Nat.le_of_ble_eq_true rfl) dn_iRow_7 (fun q1 cA H hKn hP hD hS => ?_)
  have ecA : cA = cy 0 := cy_eq0 hK (nK_last hKn)
  subst ecA
  have hP : va_P D mcl ((h0, .inr (3, [.null, .int 0])) :: ([] ++ [(q1, .inl (cy 0, 40, .inl (fun _ => 0)))])) _ := hP
  have hD : va_D A ((h0, .inr (3, [.null, .int 0])) :: ([] ++ [(q1, .inl (cy 0, 40, .inl (fun _ => 0)))])) := hD
  refine W.widen (k := 1) (n := 40) (Nat.le_of_ble_eq_true rfl) (Nat.le_of_ble_eq_true rfl) ?_
  refine va_putF (D := D) (ci := 3) (v := .ref q1) (ty := .array .int) (C := RX3) (T := TX3) (N := 2) hx hb hts inX3 tyX3 tyX3_ok nmX3 hown hK hP hD hS 0 rfl rfl 0 (by decide) (hts (.fieldLink RX3 9 "ZigzagPieces$Row" "acts" "[I") (Tb_at 90 rfl rfl)) (fun _ h9 => h9) rfl hin rfl (by decide +kernel) rfl rfl (Nat.le_of_ble_eq_true rfl) dn_iRow_9 (fun H locs hP hD hS => ?_)
  have hP : va_P D mcl ((h0, .inr (3, [.ref q1, .int 0])) :: ([] ++ [(q1, .inl (cy 0, 40, .inl (fun _ => 0)))])) _ := hP
  have hD : va_D A ((h0, .inr (3, [.ref q1, .int 0])) :: ([] ++ [(q1, .inl (cy 0, 40, .inl (fun _ => 0)))])) := hD
  refine W.widen (k := 1) (n := 40) (Nat.le_of_ble_eq_true rfl) (Nat.le_of_ble_eq_true rfl) ?_
  exact W.vret hx hb hr (fun t ht hW => ⟨⟨_, rfl, ⟨_, rfl⟩, by rw [ht]; exact hP, va_K.moved hW.alike hK, hD⟩, hS.F ht⟩) hS.2.2 dn_iRow_12
def R_Net0 (cy : Nat → Nat) (h0 : Nat) (w : va_W) : Prop := ∃ q0 : Nat, w = [(h0, .inr (2, [.ref q0, .int 0, .int 0])), (q0, .inl (cy 0, 9, .inl (fun _ => 0)))]
theorem dn_iNet_0 : decode prog_4_method_1_code 0 = .ok (.aload_n 0, 1) := by decide +kernel
theorem dn_iNet_1 : decode prog_4_method_1_code 1 = .ok (.invokespecial 3, 3) := by decide +kernel
theorem dn_iNet_4 : decode prog_4_method_1_code 4 = .ok (.aload_n 0, 1) := by decide +kernel
theorem dn_iNet_5 : decode prog_4_method_1_code 5 = .ok (.bipush 9, 2) := by decide +kernel
theorem dn_iNet_7 : decode prog_4_method_1_code 7 = .ok (.newarray .int, 2) := by decide +kernel
theorem dn_iNet_9 : decode prog_4_method_1_code 9 = .ok (.putfield 9, 3) := by decide +kernel
theorem dn_iNet_12 : decode prog_4_method_1_code 12 = .ok (.return_, 1) := by decide +kernel
set_option maxHeartbeats 4000000 in
set_option maxRecDepth 100000 in
theorem n_iNet (l : Launch) (D : va_G) (cy : Nat → Nat) (h0 sz : Nat) : Met l ⟨"ZigzagPieces$Net", "<init>", "()V"⟩ (.code ⟨"ZigzagPieces$Net", "<init>", "()V"⟩ prog_4_method_1_code 1 none :: Tb) ({ frames := 1, cells := 1, slots := 9, locals := 30 }) (nPc D cy [.ref h0] [(h0, .inr (2, [.null, .int 0, .int 0]))] sz) (va_Qv (R_Net0 cy h0) (nB D cy (va_A [(h0, .inr (2, [.null, .int 0, .int 0]))] sz)) (va_A [(h0, .inr (2, [.null, .int 0, .int 0]))] sz)) 1 9 (va_A [(h0, .inr (2, [.null, .int 0, .int 0]))] sz) := by
  refine Met.ofW (cc := prog_4_method_1_code) (maxL := 1) (ret := none) (by decide) rfl ?_
  intro p e s m args below meth c s₁ B hml hv
  obtain ⟨rfl, hsz, hP, hK, hD0, hN, hAO⟩ := hv
  have hx := B.exec
  have hb := B.bytes
  have hr := B.returns
  have hts0 := atoms_spec (ws := (.code ⟨"ZigzagPieces$Net", "<init>", "()V"⟩ prog_4_method_1_code 1 none :: Tb)) B.pre
  have hts : ∀ w ∈ Tb, w.before _ s = true := fun w hw => hts0 w (List.mem_cons_of_mem _ hw)
  have hown : s.vm.findClass RX2 = some m.cls := findClass_of_methodNamed B.named
  have hlocks := B.notSynchronized
  have hin : meth.name = "<init>" := (name_of_methodNamed B.named B.method).1
  subst hsz
  have hD := hD0.self (sz := s.heap.size)
  generalize hAe : va_A [(h0, .inr (2, [.null, .int 0, .int 0]))] s.heap.size = A at hD ⊢
  have hA : ∀ q : Nat, s.heap.size ≤ q → A q := fun q h => by rw [← hAe]; exact Or.inr h
  have hS : va_S A s.heap s.heap [] := va_S.rf
  have hl := lv_entry ([.ref h0]) (n := 1) (Nat.le_of_ble_eq_true rfl)
  rw [lg_entry_eq]
  generalize (lg_sl ([.ref h0]) ++ List.replicate (1 - (lg_sl ([.ref h0])).length) Slot.unset).toArray = ls at hl ⊢
  have hl : lv_has ls 1 [(0, .ref h0)] := hl
  have hP : va_P D mcl ((h0, .inr (2, [.null, .int 0, .int 0])) :: []) _ := hP
  have hD : va_D A ((h0, .inr (2, [.null, .int 0, .int 0])) :: []) := hD
  refine lv_aload_n hx hb dn_iNet_0 rfl (lv_at hl 0 rfl) ?_
  refine W.objInit hx hb hown (hts (.methodLink RX2 3 objectInit) (Tb_at 127 rfl rfl)) (hts (.instanceMethod objectInit) (Tb_at 68 rfl rfl)) (hts _ (Tb_at 69 rfl rfl)) rfl (by rw [hml]; exact hl.1) rfl dn_iNet_1 (Nat.le_of_ble_eq_true rfl) (Nat.le_of_ble_eq_true rfl) ?_
  refine W.eq (g2 := F0 m 4 ls []) rfl ?_
  refine lv_aload_n hx hb dn_iNet_4 rfl (lv_at hl 0 rfl) ?_
  refine lv_bipush (v := 9) hx hb dn_iNet_5 (by decide) ?_
  refine va_newa (a0 := (9, .inl (fun _ => 0))) hx hb (hts _ (Tb_at 83 rfl rfl)) (ty := .int) rfl hK hP hD hS hA (fun _ => rfl) (by decide) (N' := 9) (by decide) (by decide) (Nat.le_of_ble_eq_true rfl) (Nat.le_of_ble_eq_true rfl) dn_iNet_7 (fun q1 cA H hKn hP hD hS => ?_)
  have ecA : cA = cy 0 := cy_eq0 hK (nK_last hKn)
  subst ecA
  have hP : va_P D mcl ((h0, .inr (2, [.null, .int 0, .int 0])) :: ([] ++ [(q1, .inl (cy 0, 9, .inl (fun _ => 0)))])) _ := hP
  have hD : va_D A ((h0, .inr (2, [.null, .int 0, .int 0])) :: ([] ++ [(q1, .inl (cy 0, 9, .inl (fun _ => 0)))])) := hD
  refine W.widen (k := 1) (n := 9) (Nat.le_of_ble_eq_true rfl) (Nat.le_of_ble_eq_true rfl) ?_
  refine va_putF (D := D) (ci := 2) (v := .ref q1) (ty := .array .int) (C := RX2) (T := TX2) (N := 3) hx hb hts inX2 tyX2 tyX2_ok nmX2 hown hK hP hD hS 0 rfl rfl 0 (by decide) (hts (.fieldLink RX2 9 "ZigzagPieces$Net" "near" "[I") (Tb_at 128 rfl rfl)) (fun _ h9 => h9) rfl hin rfl (by decide +kernel) rfl rfl (Nat.le_of_ble_eq_true rfl) dn_iNet_9 (fun H locs hP hD hS => ?_)
  have hP : va_P D mcl ((h0, .inr (2, [.ref q1, .int 0, .int 0])) :: ([] ++ [(q1, .inl (cy 0, 9, .inl (fun _ => 0)))])) _ := hP
  have hD : va_D A ((h0, .inr (2, [.ref q1, .int 0, .int 0])) :: ([] ++ [(q1, .inl (cy 0, 9, .inl (fun _ => 0)))])) := hD
  refine W.widen (k := 1) (n := 9) (Nat.le_of_ble_eq_true rfl) (Nat.le_of_ble_eq_true rfl) ?_
  exact W.vret hx hb hr (fun t ht hW => ⟨⟨_, rfl, ⟨_, rfl⟩, by rw [ht]; exact hP, va_K.moved hW.alike hK, hD⟩, hS.F ht⟩) hS.2.2 dn_iNet_12
def R_Kin0 (cy : Nat → Nat) (h0 : Nat) (w : va_W) : Prop := ∃ q0 q1 q2 q3 : Nat, w = [(h0, .inr (1, [.ref q0, .ref q1, .ref q2, .ref q3])), (q0, .inl (cy 0, 9, .inl (fun _ => 0))), (q1, .inl (cy 0, 81, .inl (fun _ => 0))), (q2, .inl (cy 0, 9, .inl (fun _ => 0))), (q3, .inl (cy 0, 9, .inl (fun _ => 0)))]
theorem dn_iKin_0 : decode prog_3_method_1_code 0 = .ok (.aload_n 0, 1) := by decide +kernel
theorem dn_iKin_1 : decode prog_3_method_1_code 1 = .ok (.invokespecial 3, 3) := by decide +kernel
theorem dn_iKin_4 : decode prog_3_method_1_code 4 = .ok (.aload_n 0, 1) := by decide +kernel
theorem dn_iKin_5 : decode prog_3_method_1_code 5 = .ok (.bipush 9, 2) := by decide +kernel
theorem dn_iKin_7 : decode prog_3_method_1_code 7 = .ok (.newarray .int, 2) := by decide +kernel
theorem dn_iKin_9 : decode prog_3_method_1_code 9 = .ok (.putfield 9, 3) := by decide +kernel
theorem dn_iKin_12 : decode prog_3_method_1_code 12 = .ok (.aload_n 0, 1) := by decide +kernel
theorem dn_iKin_13 : decode prog_3_method_1_code 13 = .ok (.bipush 81, 2) := by decide +kernel
theorem dn_iKin_15 : decode prog_3_method_1_code 15 = .ok (.newarray .int, 2) := by decide +kernel
theorem dn_iKin_17 : decode prog_3_method_1_code 17 = .ok (.putfield 15, 3) := by decide +kernel
theorem dn_iKin_20 : decode prog_3_method_1_code 20 = .ok (.aload_n 0, 1) := by decide +kernel
theorem dn_iKin_21 : decode prog_3_method_1_code 21 = .ok (.bipush 9, 2) := by decide +kernel
theorem dn_iKin_23 : decode prog_3_method_1_code 23 = .ok (.newarray .int, 2) := by decide +kernel
theorem dn_iKin_25 : decode prog_3_method_1_code 25 = .ok (.putfield 18, 3) := by decide +kernel
theorem dn_iKin_28 : decode prog_3_method_1_code 28 = .ok (.aload_n 0, 1) := by decide +kernel
theorem dn_iKin_29 : decode prog_3_method_1_code 29 = .ok (.bipush 9, 2) := by decide +kernel
theorem dn_iKin_31 : decode prog_3_method_1_code 31 = .ok (.newarray .int, 2) := by decide +kernel
theorem dn_iKin_33 : decode prog_3_method_1_code 33 = .ok (.putfield 21, 3) := by decide +kernel
theorem dn_iKin_36 : decode prog_3_method_1_code 36 = .ok (.return_, 1) := by decide +kernel
set_option maxHeartbeats 4000000 in
set_option maxRecDepth 100000 in
theorem n_iKin (l : Launch) (D : va_G) (cy : Nat → Nat) (h0 sz : Nat) : Met l ⟨"ZigzagPieces$Kinship", "<init>", "()V"⟩ (.code ⟨"ZigzagPieces$Kinship", "<init>", "()V"⟩ prog_3_method_1_code 1 none :: Tb) ({ frames := 1, cells := 4, slots := 108, locals := 30 }) (nPc D cy [.ref h0] [(h0, .inr (1, [.null, .null, .null, .null]))] sz) (va_Qv (R_Kin0 cy h0) (nB D cy (va_A [(h0, .inr (1, [.null, .null, .null, .null]))] sz)) (va_A [(h0, .inr (1, [.null, .null, .null, .null]))] sz)) 4 108 (va_A [(h0, .inr (1, [.null, .null, .null, .null]))] sz) := by
  refine Met.ofW (cc := prog_3_method_1_code) (maxL := 1) (ret := none) (by decide) rfl ?_
  intro p e s m args below meth c s₁ B hml hv
  obtain ⟨rfl, hsz, hP, hK, hD0, hN, hAO⟩ := hv
  have hx := B.exec
  have hb := B.bytes
  have hr := B.returns
  have hts0 := atoms_spec (ws := (.code ⟨"ZigzagPieces$Kinship", "<init>", "()V"⟩ prog_3_method_1_code 1 none :: Tb)) B.pre
  have hts : ∀ w ∈ Tb, w.before _ s = true := fun w hw => hts0 w (List.mem_cons_of_mem _ hw)
  have hown : s.vm.findClass RX1 = some m.cls := findClass_of_methodNamed B.named
  have hlocks := B.notSynchronized
  have hin : meth.name = "<init>" := (name_of_methodNamed B.named B.method).1
  subst hsz
  have hD := hD0.self (sz := s.heap.size)
  generalize hAe : va_A [(h0, .inr (1, [.null, .null, .null, .null]))] s.heap.size = A at hD ⊢
  have hA : ∀ q : Nat, s.heap.size ≤ q → A q := fun q h => by rw [← hAe]; exact Or.inr h
  have hS : va_S A s.heap s.heap [] := va_S.rf
  have hl := lv_entry ([.ref h0]) (n := 1) (Nat.le_of_ble_eq_true rfl)
  rw [lg_entry_eq]
  generalize (lg_sl ([.ref h0]) ++ List.replicate (1 - (lg_sl ([.ref h0])).length) Slot.unset).toArray = ls at hl ⊢
  have hl : lv_has ls 1 [(0, .ref h0)] := hl
  have hP : va_P D mcl ((h0, .inr (1, [.null, .null, .null, .null])) :: []) _ := hP
  have hD : va_D A ((h0, .inr (1, [.null, .null, .null, .null])) :: []) := hD
  refine lv_aload_n hx hb dn_iKin_0 rfl (lv_at hl 0 rfl) ?_
  refine W.objInit hx hb hown (hts (.methodLink RX1 3 objectInit) (Tb_at 143 rfl rfl)) (hts (.instanceMethod objectInit) (Tb_at 68 rfl rfl)) (hts _ (Tb_at 69 rfl rfl)) rfl (by rw [hml]; exact hl.1) rfl dn_iKin_1 (Nat.le_of_ble_eq_true rfl) (Nat.le_of_ble_eq_true rfl) ?_
  refine W.eq (g2 := F0 m 4 ls []) rfl ?_
  refine lv_aload_n hx hb dn_iKin_4 rfl (lv_at hl 0 rfl) ?_
  refine lv_bipush (v := 9) hx hb dn_iKin_5 (by decide) ?_
  refine va_newa (a0 := (9, .inl (fun _ => 0))) hx hb (hts _ (Tb_at 83 rfl rfl)) (ty := .int) rfl hK hP hD hS hA (fun _ => rfl) (by decide) (N' := 9) (by decide) (by decide) (Nat.le_of_ble_eq_true rfl) (Nat.le_of_ble_eq_true rfl) dn_iKin_7 (fun q1 cA H hKn hP hD hS => ?_)
  have ecA : cA = cy 0 := cy_eq0 hK (nK_last hKn)
  subst ecA
  have hP : va_P D mcl ((h0, .inr (1, [.null, .null, .null, .null])) :: ([] ++ [(q1, .inl (cy 0, 9, .inl (fun _ => 0)))])) _ := hP
  have hD : va_D A ((h0, .inr (1, [.null, .null, .null, .null])) :: ([] ++ [(q1, .inl (cy 0, 9, .inl (fun _ => 0)))])) := hD
  refine W.widen (k := 1) (n := 9) (Nat.le_of_ble_eq_true rfl) (Nat.le_of_ble_eq_true rfl) ?_
  refine va_putF (D := D) (ci := 1) (v := .ref q1) (ty := .array .int) (C := RX1) (T := TX1) (N := 4) hx hb hts inX1 tyX1 tyX1_ok nmX1 hown hK hP hD hS 0 rfl rfl 0 (by decide) (hts (.fieldLink RX1 9 "ZigzagPieces$Kinship" "roots" "[I") (Tb_at 144 rfl rfl)) (fun _ h9 => h9) rfl hin rfl (by decide +kernel) rfl rfl (Nat.le_of_ble_eq_true rfl) dn_iKin_9 (fun H locs hP hD hS => ?_)
  have hP : va_P D mcl ((h0, .inr (1, [.ref q1, .null, .null, .null])) :: ([] ++ [(q1, .inl (cy 0, 9, .inl (fun _ => 0)))])) _ := hP
  have hD : va_D A ((h0, .inr (1, [.ref q1, .null, .null, .null])) :: ([] ++ [(q1, .inl (cy 0, 9, .inl (fun _ => 0)))])) := hD
  refine lv_aload_n hx hb dn_iKin_12 rfl (lv_at hl 0 rfl) ?_
  refine lv_bipush (v := 81) hx hb dn_iKin_13 (by decide) ?_
  refine va_newa (a0 := (81, .inl (fun _ => 0))) hx hb (hts _ (Tb_at 83 rfl rfl)) (ty := .int) rfl hK hP hD hS hA (fun _ => rfl) (by decide) (N' := 81) (by decide) (by decide) (Nat.le_of_ble_eq_true rfl) (Nat.le_of_ble_eq_true rfl) dn_iKin_15 (fun q2 cA H hKn hP hD hS => ?_)
  have ecA : cA = cy 0 := cy_eq0 hK (nK_last hKn)
  subst ecA
  have hP : va_P D mcl ((h0, .inr (1, [.ref q1, .null, .null, .null])) :: (([] ++ [(q1, .inl (cy 0, 9, .inl (fun _ => 0)))]) ++ [(q2, .inl (cy 0, 81, .inl (fun _ => 0)))])) _ := hP
  have hD : va_D A ((h0, .inr (1, [.ref q1, .null, .null, .null])) :: (([] ++ [(q1, .inl (cy 0, 9, .inl (fun _ => 0)))]) ++ [(q2, .inl (cy 0, 81, .inl (fun _ => 0)))])) := hD
  refine W.widen (k := 2) (n := 90) (Nat.le_of_ble_eq_true rfl) (Nat.le_of_ble_eq_true rfl) ?_
  refine va_putF (D := D) (ci := 1) (v := .ref q2) (ty := .array .int) (C := RX1) (T := TX1) (N := 4) hx hb hts inX1 tyX1 tyX1_ok nmX1 hown hK hP hD hS 0 rfl rfl 1 (by decide) (hts (.fieldLink RX1 15 "ZigzagPieces$Kinship" "since" "[I") (Tb_at 145 rfl rfl)) (fun _ h9 => h9) rfl hin rfl (by decide +kernel) rfl rfl (Nat.le_of_ble_eq_true rfl) dn_iKin_17 (fun H locs hP hD hS => ?_)
  have hP : va_P D mcl ((h0, .inr (1, [.ref q1, .ref q2, .null, .null])) :: (([] ++ [(q1, .inl (cy 0, 9, .inl (fun _ => 0)))]) ++ [(q2, .inl (cy 0, 81, .inl (fun _ => 0)))])) _ := hP
  have hD : va_D A ((h0, .inr (1, [.ref q1, .ref q2, .null, .null])) :: (([] ++ [(q1, .inl (cy 0, 9, .inl (fun _ => 0)))]) ++ [(q2, .inl (cy 0, 81, .inl (fun _ => 0)))])) := hD
  refine lv_aload_n hx hb dn_iKin_20 rfl (lv_at hl 0 rfl) ?_
  refine lv_bipush (v := 9) hx hb dn_iKin_21 (by decide) ?_
  refine va_newa (a0 := (9, .inl (fun _ => 0))) hx hb (hts _ (Tb_at 83 rfl rfl)) (ty := .int) rfl hK hP hD hS hA (fun _ => rfl) (by decide) (N' := 9) (by decide) (by decide) (Nat.le_of_ble_eq_true rfl) (Nat.le_of_ble_eq_true rfl) dn_iKin_23 (fun q3 cA H hKn hP hD hS => ?_)
  have ecA : cA = cy 0 := cy_eq0 hK (nK_last hKn)
  subst ecA
  have hP : va_P D mcl ((h0, .inr (1, [.ref q1, .ref q2, .null, .null])) :: ((([] ++ [(q1, .inl (cy 0, 9, .inl (fun _ => 0)))]) ++ [(q2, .inl (cy 0, 81, .inl (fun _ => 0)))]) ++ [(q3, .inl (cy 0, 9, .inl (fun _ => 0)))])) _ := hP
  have hD : va_D A ((h0, .inr (1, [.ref q1, .ref q2, .null, .null])) :: ((([] ++ [(q1, .inl (cy 0, 9, .inl (fun _ => 0)))]) ++ [(q2, .inl (cy 0, 81, .inl (fun _ => 0)))]) ++ [(q3, .inl (cy 0, 9, .inl (fun _ => 0)))])) := hD
  refine W.widen (k := 3) (n := 99) (Nat.le_of_ble_eq_true rfl) (Nat.le_of_ble_eq_true rfl) ?_
  refine va_putF (D := D) (ci := 1) (v := .ref q3) (ty := .array .int) (C := RX1) (T := TX1) (N := 4) hx hb hts inX1 tyX1 tyX1_ok nmX1 hown hK hP hD hS 0 rfl rfl 2 (by decide) (hts (.fieldLink RX1 18 "ZigzagPieces$Kinship" "withFirst" "[I") (Tb_at 146 rfl rfl)) (fun _ h9 => h9) rfl hin rfl (by decide +kernel) rfl rfl (Nat.le_of_ble_eq_true rfl) dn_iKin_25 (fun H locs hP hD hS => ?_)
  have hP : va_P D mcl ((h0, .inr (1, [.ref q1, .ref q2, .ref q3, .null])) :: ((([] ++ [(q1, .inl (cy 0, 9, .inl (fun _ => 0)))]) ++ [(q2, .inl (cy 0, 81, .inl (fun _ => 0)))]) ++ [(q3, .inl (cy 0, 9, .inl (fun _ => 0)))])) _ := hP
  have hD : va_D A ((h0, .inr (1, [.ref q1, .ref q2, .ref q3, .null])) :: ((([] ++ [(q1, .inl (cy 0, 9, .inl (fun _ => 0)))]) ++ [(q2, .inl (cy 0, 81, .inl (fun _ => 0)))]) ++ [(q3, .inl (cy 0, 9, .inl (fun _ => 0)))])) := hD
  refine lv_aload_n hx hb dn_iKin_28 rfl (lv_at hl 0 rfl) ?_
  refine lv_bipush (v := 9) hx hb dn_iKin_29 (by decide) ?_
  refine va_newa (a0 := (9, .inl (fun _ => 0))) hx hb (hts _ (Tb_at 83 rfl rfl)) (ty := .int) rfl hK hP hD hS hA (fun _ => rfl) (by decide) (N' := 9) (by decide) (by decide) (Nat.le_of_ble_eq_true rfl) (Nat.le_of_ble_eq_true rfl) dn_iKin_31 (fun q4 cA H hKn hP hD hS => ?_)
  have ecA : cA = cy 0 := cy_eq0 hK (nK_last hKn)
  subst ecA
  have hP : va_P D mcl ((h0, .inr (1, [.ref q1, .ref q2, .ref q3, .null])) :: (((([] ++ [(q1, .inl (cy 0, 9, .inl (fun _ => 0)))]) ++ [(q2, .inl (cy 0, 81, .inl (fun _ => 0)))]) ++ [(q3, .inl (cy 0, 9, .inl (fun _ => 0)))]) ++ [(q4, .inl (cy 0, 9, .inl (fun _ => 0)))])) _ := hP
  have hD : va_D A ((h0, .inr (1, [.ref q1, .ref q2, .ref q3, .null])) :: (((([] ++ [(q1, .inl (cy 0, 9, .inl (fun _ => 0)))]) ++ [(q2, .inl (cy 0, 81, .inl (fun _ => 0)))]) ++ [(q3, .inl (cy 0, 9, .inl (fun _ => 0)))]) ++ [(q4, .inl (cy 0, 9, .inl (fun _ => 0)))])) := hD
  refine W.widen (k := 4) (n := 108) (Nat.le_of_ble_eq_true rfl) (Nat.le_of_ble_eq_true rfl) ?_
  refine va_putF (D := D) (ci := 1) (v := .ref q4) (ty := .array .int) (C := RX1) (T := TX1) (N := 4) hx hb hts inX1 tyX1 tyX1_ok nmX1 hown hK hP hD hS 0 rfl rfl 3 (by decide) (hts (.fieldLink RX1 21 "ZigzagPieces$Kinship" "withSecond" "[I") (Tb_at 147 rfl rfl)) (fun _ h9 => h9) rfl hin rfl (by decide +kernel) rfl rfl (Nat.le_of_ble_eq_true rfl) dn_iKin_33 (fun H locs hP hD hS => ?_)
  have hP : va_P D mcl ((h0, .inr (1, [.ref q1, .ref q2, .ref q3, .ref q4])) :: (((([] ++ [(q1, .inl (cy 0, 9, .inl (fun _ => 0)))]) ++ [(q2, .inl (cy 0, 81, .inl (fun _ => 0)))]) ++ [(q3, .inl (cy 0, 9, .inl (fun _ => 0)))]) ++ [(q4, .inl (cy 0, 9, .inl (fun _ => 0)))])) _ := hP
  have hD : va_D A ((h0, .inr (1, [.ref q1, .ref q2, .ref q3, .ref q4])) :: (((([] ++ [(q1, .inl (cy 0, 9, .inl (fun _ => 0)))]) ++ [(q2, .inl (cy 0, 81, .inl (fun _ => 0)))]) ++ [(q3, .inl (cy 0, 9, .inl (fun _ => 0)))]) ++ [(q4, .inl (cy 0, 9, .inl (fun _ => 0)))])) := hD
  refine W.widen (k := 4) (n := 108) (Nat.le_of_ble_eq_true rfl) (Nat.le_of_ble_eq_true rfl) ?_
  exact W.vret hx hb hr (fun t ht hW => ⟨⟨_, rfl, ⟨_, _, _, _, rfl⟩, by rw [ht]; exact hP, va_K.moved hW.alike hK, hD⟩, hS.F ht⟩) hS.2.2 dn_iKin_36
def R_Bars0 (cy : Nat → Nat) (h0 : Nat) (w : va_W) : Prop := ∃ q0 q1 : Nat, w = [(h0, .inr (0, [.ref q0, .ref q1, .int 0, .int 0])), (q0, .inl (cy 0, 40, .inl (fun _ => 0))), (q1, .inl (cy 0, 40, .inl (fun _ => 0)))]
theorem dn_iBars_0 : decode prog_2_method_1_code 0 = .ok (.aload_n 0, 1) := by decide +kernel
theorem dn_iBars_1 : decode prog_2_method_1_code 1 = .ok (.invokespecial 3, 3) := by decide +kernel
theorem dn_iBars_4 : decode prog_2_method_1_code 4 = .ok (.aload_n 0, 1) := by decide +kernel
theorem dn_iBars_5 : decode prog_2_method_1_code 5 = .ok (.bipush 40, 2) := by decide +kernel
theorem dn_iBars_7 : decode prog_2_method_1_code 7 = .ok (.newarray .int, 2) := by decide +kernel
theorem dn_iBars_9 : decode prog_2_method_1_code 9 = .ok (.putfield 9, 3) := by decide +kernel
theorem dn_iBars_12 : decode prog_2_method_1_code 12 = .ok (.aload_n 0, 1) := by decide +kernel
theorem dn_iBars_13 : decode prog_2_method_1_code 13 = .ok (.bipush 40, 2) := by decide +kernel
theorem dn_iBars_15 : decode prog_2_method_1_code 15 = .ok (.newarray .int, 2) := by decide +kernel
theorem dn_iBars_17 : decode prog_2_method_1_code 17 = .ok (.putfield 15, 3) := by decide +kernel
theorem dn_iBars_20 : decode prog_2_method_1_code 20 = .ok (.return_, 1) := by decide +kernel
set_option maxHeartbeats 4000000 in
set_option maxRecDepth 100000 in
theorem n_iBars (l : Launch) (D : va_G) (cy : Nat → Nat) (h0 sz : Nat) : Met l ⟨"ZigzagPieces$Bars", "<init>", "()V"⟩ (.code ⟨"ZigzagPieces$Bars", "<init>", "()V"⟩ prog_2_method_1_code 1 none :: Tb) ({ frames := 1, cells := 2, slots := 80, locals := 30 }) (nPc D cy [.ref h0] [(h0, .inr (0, [.null, .null, .int 0, .int 0]))] sz) (va_Qv (R_Bars0 cy h0) (nB D cy (va_A [(h0, .inr (0, [.null, .null, .int 0, .int 0]))] sz)) (va_A [(h0, .inr (0, [.null, .null, .int 0, .int 0]))] sz)) 2 80 (va_A [(h0, .inr (0, [.null, .null, .int 0, .int 0]))] sz) := by
  refine Met.ofW (cc := prog_2_method_1_code) (maxL := 1) (ret := none) (by decide) rfl ?_
  intro p e s m args below meth c s₁ B hml hv
  obtain ⟨rfl, hsz, hP, hK, hD0, hN, hAO⟩ := hv
  have hx := B.exec
  have hb := B.bytes
  have hr := B.returns
  have hts0 := atoms_spec (ws := (.code ⟨"ZigzagPieces$Bars", "<init>", "()V"⟩ prog_2_method_1_code 1 none :: Tb)) B.pre
  have hts : ∀ w ∈ Tb, w.before _ s = true := fun w hw => hts0 w (List.mem_cons_of_mem _ hw)
  have hown : s.vm.findClass RX0 = some m.cls := findClass_of_methodNamed B.named
  have hlocks := B.notSynchronized
  have hin : meth.name = "<init>" := (name_of_methodNamed B.named B.method).1
  subst hsz
  have hD := hD0.self (sz := s.heap.size)
  generalize hAe : va_A [(h0, .inr (0, [.null, .null, .int 0, .int 0]))] s.heap.size = A at hD ⊢
  have hA : ∀ q : Nat, s.heap.size ≤ q → A q := fun q h => by rw [← hAe]; exact Or.inr h
  have hS : va_S A s.heap s.heap [] := va_S.rf
  have hl := lv_entry ([.ref h0]) (n := 1) (Nat.le_of_ble_eq_true rfl)
  rw [lg_entry_eq]
  generalize (lg_sl ([.ref h0]) ++ List.replicate (1 - (lg_sl ([.ref h0])).length) Slot.unset).toArray = ls at hl ⊢
  have hl : lv_has ls 1 [(0, .ref h0)] := hl
  have hP : va_P D mcl ((h0, .inr (0, [.null, .null, .int 0, .int 0])) :: []) _ := hP
  have hD : va_D A ((h0, .inr (0, [.null, .null, .int 0, .int 0])) :: []) := hD
  refine lv_aload_n hx hb dn_iBars_0 rfl (lv_at hl 0 rfl) ?_
  refine W.objInit hx hb hown (hts (.methodLink RX0 3 objectInit) (Tb_at 162 rfl rfl)) (hts (.instanceMethod objectInit) (Tb_at 68 rfl rfl)) (hts _ (Tb_at 69 rfl rfl)) rfl (by rw [hml]; exact hl.1) rfl dn_iBars_1 (Nat.le_of_ble_eq_true rfl) (Nat.le_of_ble_eq_true rfl) ?_
  refine W.eq (g2 := F0 m 4 ls []) rfl ?_
  refine lv_aload_n hx hb dn_iBars_4 rfl (lv_at hl 0 rfl) ?_
  refine lv_bipush (v := 40) hx hb dn_iBars_5 (by decide) ?_
  refine va_newa (a0 := (40, .inl (fun _ => 0))) hx hb (hts _ (Tb_at 83 rfl rfl)) (ty := .int) rfl hK hP hD hS hA (fun _ => rfl) (by decide) (N' := 40) (by decide) (by decide) (Nat.le_of_ble_eq_true rfl) (Nat.le_of_ble_eq_true rfl) dn_iBars_7 (fun q1 cA H hKn hP hD hS => ?_)
  have ecA : cA = cy 0 := cy_eq0 hK (nK_last hKn)
  subst ecA
  have hP : va_P D mcl ((h0, .inr (0, [.null, .null, .int 0, .int 0])) :: ([] ++ [(q1, .inl (cy 0, 40, .inl (fun _ => 0)))])) _ := hP
  have hD : va_D A ((h0, .inr (0, [.null, .null, .int 0, .int 0])) :: ([] ++ [(q1, .inl (cy 0, 40, .inl (fun _ => 0)))])) := hD
  refine W.widen (k := 1) (n := 40) (Nat.le_of_ble_eq_true rfl) (Nat.le_of_ble_eq_true rfl) ?_
  refine va_putF (D := D) (ci := 0) (v := .ref q1) (ty := .array .int) (C := RX0) (T := TX0) (N := 4) hx hb hts inX0 tyX0 tyX0_ok nmX0 hown hK hP hD hS 0 rfl rfl 0 (by decide) (hts (.fieldLink RX0 9 "ZigzagPieces$Bars" "begins" "[I") (Tb_at 163 rfl rfl)) (fun _ h9 => h9) rfl hin rfl (by decide +kernel) rfl rfl (Nat.le_of_ble_eq_true rfl) dn_iBars_9 (fun H locs hP hD hS => ?_)
  have hP : va_P D mcl ((h0, .inr (0, [.ref q1, .null, .int 0, .int 0])) :: ([] ++ [(q1, .inl (cy 0, 40, .inl (fun _ => 0)))])) _ := hP
  have hD : va_D A ((h0, .inr (0, [.ref q1, .null, .int 0, .int 0])) :: ([] ++ [(q1, .inl (cy 0, 40, .inl (fun _ => 0)))])) := hD
  refine lv_aload_n hx hb dn_iBars_12 rfl (lv_at hl 0 rfl) ?_
  refine lv_bipush (v := 40) hx hb dn_iBars_13 (by decide) ?_
  refine va_newa (a0 := (40, .inl (fun _ => 0))) hx hb (hts _ (Tb_at 83 rfl rfl)) (ty := .int) rfl hK hP hD hS hA (fun _ => rfl) (by decide) (N' := 40) (by decide) (by decide) (Nat.le_of_ble_eq_true rfl) (Nat.le_of_ble_eq_true rfl) dn_iBars_15 (fun q2 cA H hKn hP hD hS => ?_)
  have ecA : cA = cy 0 := cy_eq0 hK (nK_last hKn)
  subst ecA
  have hP : va_P D mcl ((h0, .inr (0, [.ref q1, .null, .int 0, .int 0])) :: (([] ++ [(q1, .inl (cy 0, 40, .inl (fun _ => 0)))]) ++ [(q2, .inl (cy 0, 40, .inl (fun _ => 0)))])) _ := hP
  have hD : va_D A ((h0, .inr (0, [.ref q1, .null, .int 0, .int 0])) :: (([] ++ [(q1, .inl (cy 0, 40, .inl (fun _ => 0)))]) ++ [(q2, .inl (cy 0, 40, .inl (fun _ => 0)))])) := hD
  refine W.widen (k := 2) (n := 80) (Nat.le_of_ble_eq_true rfl) (Nat.le_of_ble_eq_true rfl) ?_
  refine va_putF (D := D) (ci := 0) (v := .ref q2) (ty := .array .int) (C := RX0) (T := TX0) (N := 4) hx hb hts inX0 tyX0 tyX0_ok nmX0 hown hK hP hD hS 0 rfl rfl 1 (by decide) (hts (.fieldLink RX0 15 "ZigzagPieces$Bars" "ends" "[I") (Tb_at 164 rfl rfl)) (fun _ h9 => h9) rfl hin rfl (by decide +kernel) rfl rfl (Nat.le_of_ble_eq_true rfl) dn_iBars_17 (fun H locs hP hD hS => ?_)
  have hP : va_P D mcl ((h0, .inr (0, [.ref q1, .ref q2, .int 0, .int 0])) :: (([] ++ [(q1, .inl (cy 0, 40, .inl (fun _ => 0)))]) ++ [(q2, .inl (cy 0, 40, .inl (fun _ => 0)))])) _ := hP
  have hD : va_D A ((h0, .inr (0, [.ref q1, .ref q2, .int 0, .int 0])) :: (([] ++ [(q1, .inl (cy 0, 40, .inl (fun _ => 0)))]) ++ [(q2, .inl (cy 0, 40, .inl (fun _ => 0)))])) := hD
  refine W.widen (k := 2) (n := 80) (Nat.le_of_ble_eq_true rfl) (Nat.le_of_ble_eq_true rfl) ?_
  exact W.vret hx hb hr (fun t ht hW => ⟨⟨_, rfl, ⟨_, _, rfl⟩, by rw [ht]; exact hP, va_K.moved hW.alike hK, hD⟩, hS.F ht⟩) hS.2.2 dn_iBars_20
