/-! the law, from its entry, given that the class is made -/
def NZ (l : Launch) : Prop := ∀ (D : va_G) (cy adK adV : Nat → Nat) (h0 sz : Nat), Met l ⟨"ZigzagPieces", "<init>", "()V"⟩ (.code ⟨"ZigzagPieces", "<init>", "()V"⟩ prog_1_method_1_code 2 none :: Tb) rmZ (zPc D cy adK adV [.ref h0] [(h0, .inr (7, [.null, .null, .null, .null, .null, .null, .null]))] sz) (va_Qv (R_Z0 cy h0) (nB D cy (va_A [(h0, .inr (7, [.null, .null, .null, .null, .null, .null, .null]))] sz)) (va_A [(h0, .inr (7, [.null, .null, .null, .null, .null, .null, .null]))] sz)) 48 1056 (va_A [(h0, .inr (7, [.null, .null, .null, .null, .null, .null, .null]))] sz)
theorem z_pre {s : State} {H : Heap} {D : va_G} {cy adK adV : Nat → Nat} {A : Nat → Prop} {ws : va_W} {x : Nat × va_E} {a : List Value} {locs : List Loc} (hP : va_P D mcl (ws ++ [x]) H) (hD : va_D A (ws ++ [x])) (hK : va_K D mcl (mty cy) s) (hN : mNw s) (hAO : va_AO RX3 s) (hR : vk_R RX7 48 "v0;v1;v2;e01;v3;e12;f01;e23;w0;v0;e03;f23;e01;f12;w2;" (adK 0) s) (hJ : JS adK adV A s s.heap) (hS : va_S A s.heap H locs) (hA : ∀ q, s.heap.size ≤ q → A q) : ∀ U : State, U.heap = H → s.WarmedH U.vm → zPc D cy adK adV a [x] H.size a.toArray U :=
  fun U hU hW => ⟨rfl, by rw [hU], by rw [hU]; exact new_last hP, va_K.moved hW.alike hK, new_lastD hD, mNw.warm hW hN, va_AO.moved hW.alike hAO, vk_R.warm hW hR, by rw [hU]; exact JS.moved hW.alike (JS.narrow (JS.kept hJ hS.2.1) (new_free hD hS hA))⟩
theorem arr_prim {s : State} {args : Array Value} {ty : FieldType} (h : (Cond.arrayClass ty).before args s = true) : ∃ cA, ArrOfT s cA ty ∧ s.vm.findClass ("[" ++ ty.toString) = some cA := by
  obtain ⟨cA, kA, comp, h1, h2, h3⟩ := Cond.arrayClass_spec h
  exact ⟨cA, fun n z => ⟨fun k h => (by cases h), kA, h2, comp, h3⟩, h1⟩
theorem arr_obj {s : State} {args : Array Value} {C : String} (h : (Cond.arrayOver (.object C)).before args s = true) : ∃ cA, ArrOfT s cA (.object C) ∧ va_RA s cA (.object C) := by
  obtain ⟨comp, cA, kA, h1, h2, h3, h4, h5⟩ := Cond.arrayOver_spec h
  exact ⟨cA, fun n z => ⟨fun k h => (by cases h), kA, h3, comp, h4⟩, kA, comp, h3, h4, h1, h5⟩
theorem first_tys {s : State} {args : Array Value} {D : va_G} (hc : ∀ (k : Nat) (q : vw_C), mcl[k]? = some q → u_Kn s q.1 q.2.1 q.2.2 (D.1 k) (D.2 k)) (h0 : (Cond.arrayClass .int).before args s = true) (h1 : (Cond.arrayClass .byte).before args s = true) (h2 : (Cond.arrayOver (.object RX3)).before args s = true) : ∃ cy : Nat → Nat, va_K D mcl (mty cy) s := by
  obtain ⟨c0, a0, b0⟩ := arr_prim h0
  obtain ⟨c1, a1, b1⟩ := arr_prim h1
  obtain ⟨c2, a2, b2⟩ := arr_obj h2
  refine ⟨fun k => if k = 0 then c0 else if k = 1 then c1 else c2, hc, fun k q hq => ?_⟩
  match k, hq with
  | 0, hq => cases hq; exact ⟨a0, b0⟩
  | 1, hq => cases hq; exact ⟨a1, b1⟩
  | 2, hq => cases hq; exact ⟨a2, b2⟩
  | k + 3, hq => simp [mty] at hq
theorem cWo_app (cy ad : Nat → Nat) : ∀ (h t : mH) (k : Nat), cWo cy ad k (h ++ t) = cWo cy ad k h ++ cWo cy ad (k + h.length) t
  | [], t, k => rfl
  | e :: h, t, k => by
    show _ :: cWo cy ad (k + 1) (h ++ t) = _ :: (cWo cy ad (k + 1) h ++ _)
    rw [cWo_app cy ad h t (k + 1), show k + 1 + h.length = k + (e :: h).length by rw [List.length_cons]; omega]
theorem rep_PI {D : va_G} {cl : List vw_C} {ws : va_W} {H : Heap} {i a n : Nat} {cA : ClassId} {f g : Nat → Int32} (hP : va_P D cl ws H) (h : ws[i]? = some (a, .inl (cA, n, .inl f))) (e : ∀ j, j < n → f j = g j) : va_P D cl (ws.set i (a, .inl (cA, n, .inl g))) H := by
  intro k q hq
  by_cases ek : k = i
  · subst ek
    have hl := (List.getElem?_eq_some_iff.mp h).1
    rw [List.getElem?_set_self hl] at hq
    cases hq
    have h0 : H[a]? = some (vp_cell cA (n, .inl f)) := hP k _ h
    show H[a]? = some (vp_cell cA (n, .inl g))
    rw [h0]
    show some (arrV cA n (fun j => .int (f j))) = some (arrV cA n (fun j => .int (g j)))
    have e2 : arrV cA n (fun j => Value.int (f j)) = arrV cA n (fun j => Value.int (g j)) := arr_ext (fun j hj => by rw [e j hj])
    rw [e2]
  · rw [List.getElem?_set_ne (Ne.symm ek)] at hq
    exact hP k q hq
set_option maxRecDepth 100000 in
theorem sq_fun : ∀ j : Fin 41, (upd (upd (upd (upd (upd (upd (upd (upd (upd (upd (upd (upd (upd (upd (upd (upd (fun _ => 0) (0 : Int32).toNatClampNeg 15) (1 : Int32).toNatClampNeg 0) (2 : Int32).toNatClampNeg 10) (3 : Int32).toNatClampNeg 20) (4 : Int32).toNatClampNeg 201) (5 : Int32).toNatClampNeg 30) (6 : Int32).toNatClampNeg 212) (7 : Int32).toNatClampNeg 301) (8 : Int32).toNatClampNeg 223) (9 : Int32).toNatClampNeg 100) (10 : Int32).toNatClampNeg 0) (11 : Int32).toNatClampNeg 203) (12 : Int32).toNatClampNeg 323) (13 : Int32).toNatClampNeg 201) (14 : Int32).toNatClampNeg 312) (15 : Int32).toNatClampNeg 120) j.val = nA sq0 j.val := by decide +kernel
abbrev mR0 : mH := mR 49 [] 0 0 0 0 0 0 zN sq0 zN zN zN zN zN 0 0 0 zN zN zN (fun _ _ => 0) zN zN
set_option maxRecDepth 100000 in
theorem in_ex : Cond.exactly (Term.string RX7 48) "java/lang/String" ∈ flatC (Jvm.Cond.and given_1 narrow_1) := by decide +kernel
set_option maxRecDepth 100000 in
theorem in_co : Cond.eq (.field (Term.string RX7 48) "java/lang/String" "coder" "B") (.int 0) ∈ flatC (Jvm.Cond.and given_1 narrow_1) := by decide +kernel
set_option maxRecDepth 100000 in
theorem in_ar : Cond.arrayOf (.field (Term.string RX7 48) "java/lang/String" "value" "[B") .byte ∈ flatC (Jvm.Cond.and given_1 narrow_1) := by decide +kernel
set_option maxRecDepth 100000 in
theorem in_le : Cond.eq (.length (.field (Term.string RX7 48) "java/lang/String" "value" "[B")) (.int (Int32.ofNat 53)) ∈ flatC (Jvm.Cond.and given_1 narrow_1) := by decide +kernel
set_option maxRecDepth 100000 in
theorem in_el : ∀ j : Fin 53, Cond.eq (.elem (.field (Term.string RX7 48) "java/lang/String" "value" "[B") (.int (Int32.ofNat j.val))) (.int (bytL.getD j.val 0)) ∈ flatC (Jvm.Cond.and given_1 narrow_1) := by decide +kernel
set_option maxRecDepth 100000 in
theorem in_cs : Cond.eq (.static "java/lang/String" "COMPACT_STRINGS" "Z") (.int 1) ∈ flatC (Jvm.Cond.and given_1 narrow_1) := by decide +kernel
set_option maxRecDepth 100000 in
theorem in_si : Cond.isRef (.static "jdk/internal/util/Preconditions" "SIOOBE_FORMATTER" "Ljava/util/function/BiFunction;") ∈ flatC (Jvm.Cond.and given_1 narrow_1) := by decide +kernel
set_option maxHeartbeats 4000000 in
set_option maxRecDepth 100000 in
theorem first_JS {s : State} {args : Array Value} (hts0 : ∀ w ∈ lw_tbl, w.before args s = true) (hgv : (Jvm.Cond.and given_1 narrow_1).before args s = true) : ∃ adK adV : Nat → Nat, JS adK adV (fun q : Nat => s.heap.size ≤ q) s s.heap ∧ vk_R RX7 48 "v0;v1;v2;e01;v3;e12;f01;e23;w0;v0;e03;f23;e01;f12;w2;" (adK 0) s := by
  have hs := flat_of_before _ hgv
  have hA : ∀ a : Nat, a < s.heap.size → ¬ (fun q : Nat => s.heap.size ≤ q) a := fun a h => Nat.not_le.mpr h
  have z1 : ∀ i : Nat, i < 1 → i = 0 := fun i h => by omega
  obtain ⟨adK, adV, hv, he⟩ := vk_Sof (N := 1) (tm := fun _ => (Term.string RX7 48)) (len := [53]) (byt := [bytL]) (A := fun q : Nat => s.heap.size ≤ q) (args := args) (s := s) (fun i hi => by rw [z1 i hi]; decide) (fun i hi => hs _ in_ex) (fun i hi => hs _ in_co) (fun i hi => hs _ in_ar) (fun i hi => by rw [z1 i hi]; exact hs _ in_le) (fun i hi j hj => by rw [z1 i hi] at hj ⊢; exact hs _ (in_el ⟨j, hj⟩)) (fun i j hi hj hne => absurd ((z1 i hi).trans (z1 j hj).symm) hne) hA
  refine ⟨adK, adV, ⟨hv, va_Zof (hts0 _ (List.mem_of_getElem? (i := 199) rfl)) (hts0 _ (List.mem_of_getElem? (i := 55) rfl)) (va_eqi (hs _ in_cs)) hA, va_Zqof (hts0 _ (List.mem_of_getElem? (i := 215) rfl)) (hts0 _ (List.mem_of_getElem? (i := 57) rfl)) (hs _ in_si) hA⟩, vk_R.of (hts0 _ (List.mem_of_getElem? (i := 189) rfl)) (he 0 (by decide))⟩
theorem cWo_len (cy ad : Nat → Nat) : ∀ (h : mH) (k : Nat), (cWo cy ad k h).length = h.length
  | [], _ => rfl
  | e :: t, k => by
    show (cWo cy ad (k + 1) t).length + 1 = t.length + 1
    rw [cWo_len cy ad t (k + 1)]
def okM (e : va_E) : Prop := match e with
  | .inr (_, fs) => (fs.all fun v => match v with
    | .ref k => decide (49 ≤ k)
    | _ => true) = true
  | .inl (_, _, .inr (.inr (.inr (.inr _)))) => False
  | .inl _ => True
theorem okM_cE {cy ad ad' : Nat → Nat} (h : ∀ k, 49 ≤ k → ad' k = ad k) {e : va_E} (he : okM e) : cE cy ad' e = cE cy ad e := by
  match e, he with
  | .inr (c, fs), he =>
    show Sum.inr (c, fs.map (cz ad')) = Sum.inr (c, fs.map (cz ad))
    congr 2
    refine List.map_congr_left (fun v hv => ?_)
    have hv2 := List.all_eq_true.mp he v hv
    cases v with
    | ref k =>
      have hk : 49 ≤ k := of_decide_eq_true hv2
      show Value.ref (ad' k) = Value.ref (ad k)
      rw [h k hk]
    | _ => rfl
  | .inl (t, n, .inl f), _ => rfl
  | .inl (t, n, .inr (.inl f)), _ => rfl
  | .inl (t, n, .inr (.inr (.inl f))), _ => rfl
  | .inl (t, n, .inr (.inr (.inr (.inl f)))), _ => rfl
theorem cWo_sh {cy ad' : Nat → Nat} {l : List Nat} (h : ∀ k, ad' (49 + k) = adL l k) : ∀ (t : mH) (j : Nat), (∀ e ∈ t, okM e) → cWo cy ad' (49 + j) t = cWo cy (fun k => adL l (k - 49)) (49 + j) t
  | [], _, _ => rfl
  | e :: t, j, ho => by
    have h2 : ∀ k, 49 ≤ k → ad' k = (fun k => adL l (k - 49)) k := fun k hk => by
      have := h (k - 49)
      rw [show 49 + (k - 49) = k by omega] at this
      exact this
    show (ad' (49 + j), cE cy ad' e) :: cWo cy ad' (49 + (j + 1)) t = ((fun k => adL l (k - 49)) (49 + j), cE cy _ e) :: cWo cy _ (49 + (j + 1)) t
    rw [h2 (49 + j) (by omega), okM_cE h2 (ho e List.mem_cons_self), cWo_sh h t (j + 1) (fun x hx => ho x (List.mem_cons_of_mem _ hx))]
theorem mR0_ok : ∀ e ∈ mR0, okM e := List.forall_mem_cons.mpr ⟨(rfl : _ = true), List.forall_mem_cons.mpr ⟨trivial, List.forall_mem_cons.mpr ⟨trivial, List.forall_mem_cons.mpr ⟨trivial, List.forall_mem_cons.mpr ⟨trivial, List.forall_mem_cons.mpr ⟨trivial, List.forall_mem_cons.mpr ⟨trivial, List.forall_mem_cons.mpr ⟨trivial, List.forall_mem_cons.mpr ⟨trivial, List.forall_mem_cons.mpr ⟨trivial, List.forall_mem_cons.mpr ⟨trivial, List.forall_mem_cons.mpr ⟨trivial, List.forall_mem_cons.mpr ⟨trivial, List.forall_mem_cons.mpr ⟨trivial, fun _ h => absurd h List.not_mem_nil⟩⟩⟩⟩⟩⟩⟩⟩⟩⟩⟩⟩⟩⟩
set_option maxHeartbeats 4000000 in
set_option maxRecDepth 100000 in
theorem start_open {p : Program} {e : Env} {s : State} {m : MethodId} {below : List Frame} {meth : Method} {c : Code} (l : Launch) (hZ : NZ l) {b L : Nat} {xs : Nat → Int32} (hL : L ≤ 2048) (C0 : lw_At p s m meth c b L xs) : W p l e room_1 s m #[Value.ref b] below meth c s.heap [] 0 0 (lw_Z below #[Value.ref b] s) (entryFrame m ([Value.ref b] : List Value).toArray 4) := by
  obtain ⟨hx, hb, hr, hml, hown, hts0, hX, hbl, hlocks, hgv⟩ := C0
  have hts : ∀ w ∈ Tb, w.before #[Value.ref b] s = true := fun w hw => hts0 w (List.mem_filter.mp hw).1
  have hN : mNw s := fun w hw => by
    have h1 := hts0 w (List.mem_filter.mp hw).1
    have h2 := (List.mem_filter.mp hw).2
    cases w <;> first | (simp [isN] at h2; done) | exact va_Nw.of rfl h1
  have hAO : va_AO RX3 s := va_AO.of (hts0 _ (List.mem_of_getElem? (i := 107) rfl))
  obtain ⟨adK, adV, hJ, hR⟩ := first_JS hts0 hgv
  obtain ⟨c0, i0, kn0⟩ := u_known (C := RX0) (T := TX0) (N := 4) (n := 4) hts inX0 (hts (.instantiable RX0 4) (Tb_at 158 rfl rfl))
  obtain ⟨c1, i1, kn1⟩ := u_known (C := RX1) (T := TX1) (N := 4) (n := 4) hts inX1 (hts (.instantiable RX1 4) (Tb_at 139 rfl rfl))
  obtain ⟨c2, i2, kn2⟩ := u_known (C := RX2) (T := TX2) (N := 3) (n := 3) hts inX2 (hts (.instantiable RX2 3) (Tb_at 123 rfl rfl))
  obtain ⟨c3, i3, kn3⟩ := u_known (C := RX3) (T := TX3) (N := 2) (n := 2) hts inX3 (hts (.instantiable RX3 2) (Tb_at 85 rfl rfl))
  obtain ⟨c4, i4, kn4⟩ := u_known (C := RX4) (T := TX4) (N := 2) (n := 2) hts inX4 (hts (.instantiable RX4 2) (Tb_at 98 rfl rfl))
  obtain ⟨c5, i5, kn5⟩ := u_known (C := RX5) (T := TX5) (N := 3) (n := 3) hts inX5 (hts (.instantiable RX5 3) (Tb_at 117 rfl rfl))
  obtain ⟨c6, i6, kn6⟩ := u_known (C := RX6) (T := TX6) (N := 2) (n := 2) hts inX6 (hts (.instantiable RX6 2) (Tb_at 71 rfl rfl))
  obtain ⟨c7, i7, kn7⟩ := u_known (C := RX7) (T := TX7) (N := 7) (n := 7) hts inX7 (hts (.instantiable RX7 7) (Tb_at 63 rfl rfl))
  obtain ⟨c8, i8, kn8⟩ := u_known (C := RX8) (T := TX8) (N := 22) (n := 22) hts inX8 (hts (.instantiable RX8 22) (Tb_at 715 rfl rfl))
  obtain ⟨D, hKc⟩ : ∃ D : va_G, ∀ (k : Nat) (q : vw_C), mcl[k]? = some q → u_Kn s q.1 q.2.1 q.2.2 (D.1 k) (D.2 k) := by
    refine ⟨(fun k => if k = 0 then c0 else if k = 1 then c1 else if k = 2 then c2 else if k = 3 then c3 else if k = 4 then c4 else if k = 5 then c5 else if k = 6 then c6 else if k = 7 then c7 else c8, fun k => if k = 0 then i0 else if k = 1 then i1 else if k = 2 then i2 else if k = 3 then i3 else if k = 4 then i4 else if k = 5 then i5 else if k = 6 then i6 else if k = 7 then i7 else i8), ?_⟩
    intro k q hq
    match k, hq with
    | 0, hq => cases hq; exact kn0
    | 1, hq => cases hq; exact kn1
    | 2, hq => cases hq; exact kn2
    | 3, hq => cases hq; exact kn3
    | 4, hq => cases hq; exact kn4
    | 5, hq => cases hq; exact kn5
    | 6, hq => cases hq; exact kn6
    | 7, hq => cases hq; exact kn7
    | 8, hq => cases hq; exact kn8
    | k + 9, hq => simp [mcl] at hq
  obtain ⟨cy, hK⟩ := first_tys hKc (hts (.arrayClass .int) (Tb_at 83 rfl rfl)) (hts (.arrayClass .byte) (Tb_at 495 rfl rfl)) (hts0 _ (List.mem_of_getElem? (i := 107) rfl))
  have hA : ∀ q : Nat, s.heap.size ≤ q → (fun q : Nat => s.heap.size ≤ q) q := fun _ h => h
  have hS : va_S (fun q : Nat => s.heap.size ≤ q) s.heap s.heap [] := va_S.rf
  have hP : va_P D mcl [] s.heap := fun k q h => by simp at h
  have hD : va_D (fun q : Nat => s.heap.size ≤ q) [] := ⟨fun i j p q h => by simp at h, fun k q h => by simp at h⟩
  have hl := lv_entry ([.ref b]) (n := 4) (Nat.le_of_ble_eq_true rfl)
  rw [lg_entry_eq]
  generalize (lg_sl ([.ref b]) ++ List.replicate (4 - (lg_sl ([.ref b])).length) Slot.unset).toArray = ls at hl ⊢
  have hl : lv_has ls 4 [(0, .ref b)] := hl
  refine va_new (ci := 7) (fs := [.null, .null, .null, .null, .null, .null, .null]) (C := RX7) (T := TX7) (N := 7) hx hb hts inX7 tyX7 tyX7_ok hown (hts (.classLink R_law 7 RX7) (Tb_at 62 rfl rfl)) (hts (.instantiable RX7 7) (Tb_at 63 rfl rfl)) (hts (.initialized RX7) (Tb_at 46 rfl rfl)) hK hP hD hS hA rfl (fun j hj => by rcases (show j = 0 ∨ j = 1 ∨ j = 2 ∨ j = 3 ∨ j = 4 ∨ j = 5 ∨ j = 6 by omega) with rfl | rfl | rfl | rfl | rfl | rfl | rfl <;> rfl) (Nat.le_of_ble_eq_true rfl) (Nat.le_of_ble_eq_true rfl) dL_0 (fun q7 H hP hD hS => ?_)
  refine W.widen (k := 1) (n := 7) (Nat.le_of_ble_eq_true rfl) (Nat.le_of_ble_eq_true rfl) ?_
  refine lv_dup hx hb dL_3 rfl ?_
  have hFc := new_free hD hS hA
  refine new_call hP hD hS hA hFc (va_runI (cc := code) (nL := 4) (Ts := Tb) (own := R_law) (bytes := prog_1_method_1_code) (maxL := 2) (As := []) (rest := [.ref q7]) ⟨hx, hb, hml, hown, hts⟩ (hZ D cy adK adV q7 _) ⟨callB_of 0 hts (mGood (Tb_at 66 rfl rfl)) rfl rfl rfl (hts (.initialized RX7) (Tb_at 46 rfl rfl)) (hts _ (Tb_at 64 rfl rfl)) ⟨by decide, by decide, by decide +kernel⟩ ⟨Nat.le_of_ble_eq_true rfl, Nat.le_of_ble_eq_true rfl⟩, rfl, hts _ (Tb_at 65 rfl rfl)⟩ ⟨zPc_blind, z_pre hP hD hK hN hAO hR hJ hS hA⟩ rfl rfl hl.1 rfl (lv_room (Nat.le_of_ble_eq_true rfl)) dL_4 ⟨Nat.le_of_ble_eq_true rfl, Nat.le_of_ble_eq_true rfl⟩) ?_
  clear hP hD hS hFc
  intro w H locs hRw hP hD hS
  obtain ⟨ad, h, e0, rfl, hlen, hok, hCI⟩ := hRw
  have hP : va_P D mcl (cW cy ad h) H := hP
  have hD : va_D (fun q : Nat => s.heap.size ≤ q) (cW cy ad h) := hD
  refine W.widen (k := 49) (n := 1063) (Nat.le_of_ble_eq_true rfl) (Nat.le_of_ble_eq_true rfl) ?_
  refine lv_astore_n (lv' := [(1, .ref q7), (0, .ref b)]) hx hb dL_7 rfl hl (by decide) rfl (fun ls hl => ?_)
  refine va_new (ci := 8) (fs := [.int 0, .null, .int 0, .null, .null, .int 0, .null, .int 0, .int 0, .null, .null, .int 0, .null, .null, .null, .null, .int 0, .null, .int 0, .null, .null, .int 0]) (C := RX8) (T := TX8) (N := 22) hx hb hts inX8 tyX8 tyX8_ok hown (hts (.classLink R_law 10 RX8) (Tb_at 714 rfl rfl)) (hts (.instantiable RX8 22) (Tb_at 715 rfl rfl)) (hts (.initialized RX8) (Tb_at 61 rfl rfl)) hK hP hD hS hA rfl (fun j hj => by rcases (show j = 0 ∨ j = 1 ∨ j = 2 ∨ j = 3 ∨ j = 4 ∨ j = 5 ∨ j = 6 ∨ j = 7 ∨ j = 8 ∨ j = 9 ∨ j = 10 ∨ j = 11 ∨ j = 12 ∨ j = 13 ∨ j = 14 ∨ j = 15 ∨ j = 16 ∨ j = 17 ∨ j = 18 ∨ j = 19 ∨ j = 20 ∨ j = 21 by omega) with rfl | rfl | rfl | rfl | rfl | rfl | rfl | rfl | rfl | rfl | rfl | rfl | rfl | rfl | rfl | rfl | rfl | rfl | rfl | rfl | rfl | rfl <;> rfl) (Nat.le_of_ble_eq_true rfl) (Nat.le_of_ble_eq_true rfl) dL_8 (fun q8 H hP hD hS => ?_)
  refine W.widen (k := 50) (n := 1085) (Nat.le_of_ble_eq_true rfl) (Nat.le_of_ble_eq_true rfl) ?_
  refine lv_dup hx hb dL_11 rfl ?_
  have hFc := new_free hD hS hA
  refine new_call hP hD hS hA hFc (va_runI (cc := code) (nL := 4) (Ts := Tb) (own := R_law) (bytes := prog_10_method_1_code) (maxL := 1) (As := []) (rest := [.ref q8]) ⟨hx, hb, hml, hown, hts⟩ (n_iModel l D cy q8 _) ⟨callB_of 0 hts (mGood (Tb_at 718 rfl rfl)) rfl rfl rfl (hts (.initialized RX8) (Tb_at 61 rfl rfl)) (hts _ (Tb_at 716 rfl rfl)) ⟨by decide, by decide, by decide +kernel⟩ ⟨Nat.le_of_ble_eq_true rfl, Nat.le_of_ble_eq_true rfl⟩, rfl, hts _ (Tb_at 717 rfl rfl)⟩ ⟨nPc_blind, new_pre hP hD hK hN hAO⟩ rfl rfl hl.1 rfl (lv_room (Nat.le_of_ble_eq_true rfl)) dL_12 ⟨Nat.le_of_ble_eq_true rfl, Nat.le_of_ble_eq_true rfl⟩) ?_
  clear hP hD hS hFc
  intro w H locs hRw hP hD hS
  obtain ⟨m0, m1, m2, m3, m4, m5, m6, m7, m8, m9, m10, m11, m12, rfl⟩ := hRw
  refine W.widen (k := 63) (n := 2043) (Nat.le_of_ble_eq_true rfl) (Nat.le_of_ble_eq_true rfl) ?_
  refine lv_astore_n (lv' := [(2, .ref q8), (1, .ref q7), (0, .ref b)]) hx hb dL_15 rfl hl (by decide) rfl (fun ls hl => ?_)
  refine lv_iconst (v := 0) hx hb dL_16 (by decide) ?_
  refine lv_istore_n (lv' := [(3, .int 0), (2, .ref q8), (1, .ref q7), (0, .ref b)]) hx hb dL_17 rfl hl (by decide) rfl (fun ls hl => ?_)
  have hlw : (cW cy ad h).length = 49 := by rw [cW_eq, cWo_len]; exact hlen
  have hP := rep_PI (i := 51) (g := nA sq0) (a := m1) (n := 41) hP (by rw [List.getElem?_append_right (by omega), hlw]; rfl) (fun j hj => sq_fun ⟨j, hj⟩)
  have hD := va_D.set (e := .inl (cy 0, 41, .inl (nA sq0))) hD (p := 51) (by rw [List.getElem?_append_right (by omega), hlw]; rfl)
  have hset : ∀ {t : va_W} {x : Nat × va_E}, (cW cy ad h ++ t).set 51 x = cW cy ad h ++ t.set 2 x := fun {t x} => by rw [List.set_append_right _ _ (by omega), hlw]
  rw [hset] at hP hD
  obtain ⟨ad', had1, had2⟩ : ∃ ad' : Nat → Nat, (∀ k, k < 49 → ad' k = ad k) ∧ ∀ k, ad' (49 + k) = adL [q8, m0, m1, m2, m3, m4, m5, m6, m7, m8, m9, m10, m11, m12] k := ⟨(fun k => if k < 49 then ad k else adL [q8, m0, m1, m2, m3, m4, m5, m6, m7, m8, m9, m10, m11, m12] (k - 49)), fun k hk => if_pos hk, fun k => by show (if 49 + k < 49 then _ else _) = _; rw [if_neg (by omega), Nat.add_sub_cancel_left]⟩
  have hcw : cW cy ad' (h ++ mR0) = cW cy ad h ++ cWo cy ad' 49 mR0 := by rw [cW_eq, cWo_app, Nat.zero_add, hlen, ← cW_eq, cW_cl had1 hlen hok]
  have hmr : cWo cy ad' 49 mR0 = cWo cy (fun k => adL [q8, m0, m1, m2, m3, m4, m5, m6, m7, m8, m9, m10, m11, m12] (k - 49)) 49 mR0 := cWo_sh had2 mR0 0 mR0_ok
  have hP : va_P D mcl (cW cy ad' (h ++ mR0)) H := by rw [hcw, hmr]; exact hP
  have hD : va_D (fun q : Nat => s.heap.size ≤ q) (cW cy ad' (h ++ mR0)) := by rw [hcw, hmr]; exact hD
  have hl : lv_has ls 4 [(0, .ref b), (1, .ref (ad' 0)), (2, .ref (ad' 49)), (3, .int (nI 0))] := by
    rw [had1 0 (by decide), e0, had2 0]
    exact lv_sub hl [3, 2, 1, 0] rfl
  have X0 : LX p s m meth c D cy ad' b L xs := ⟨hx, hb, hr, hml, hown, hts, hK, hN, hX, hbl, hlocks⟩
  exact law_loop X0 (k0 := 63) (n0 := 2043) (by decide) (by decide) hL (L + 5) 0 (by omega) (by omega) A0 (h ++ mR0) H locs ls ⟨mR0, first_RIS rfl, hCI mR0⟩ hP hD hS hl
