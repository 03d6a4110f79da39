/-! the class, made -/
def zPc (D : va_G) (cy adK adV : Nat → Nat) (a : List Value) (w : va_W) (sz : Nat) : Array Value → State → Prop := va_Pc a (fun U => U.heap.size = sz ∧ va_P D mcl w U.heap ∧ va_K D mcl (mty cy) U ∧ va_D (fun _ => True) w ∧ mNw U ∧ va_AO RX3 U ∧ vk_R RX7 48 "v0;v1;v2;e01;v3;e12;f01;e23;w0;v0;e03;f23;e01;f12;w2;" (adK 0) U ∧ JS adK adV (va_A w sz) U U.heap)
theorem zPc_blind {D : va_G} {cy adK adV : Nat → Nat} {a : List Value} {w : va_W} {sz : Nat} : FrameBlind (zPc D cy adK adV a w sz) := fun _ U _ _ q => by
  obtain ⟨q0, q1, qP, qK, qD, qN, qA, qR, qJ⟩ := q
  exact ⟨q0, q1, qP, va_K.moved (u := U) (Vm.Alike.refl U.vm) qK, qD, mNw.same (u := U) (show U.vm = _ from rfl) qN, va_AO.moved (u := U) (Vm.Alike.refl U.vm) qA, vk_R.same (u := U) rfl qR, JS.moved (u := U) (Vm.Alike.refl U.vm) qJ⟩
def R_Z0 (cy : Nat → Nat) (h0 : Nat) (w : va_W) : Prop := ∃ (ad : Nat → Nat) (h : mH), ad 0 = h0 ∧ w = cW cy ad h ∧ h.length = 49 ∧ (∀ e ∈ h, okP e) ∧ ∀ suf, CIA suf A0 (h ++ suf)
def adL (l : List Nat) : Nat → Nat := fun k => l.getD k 0
def cWo (cy ad : Nat → Nat) : Nat → mH → va_W
  | _, [] => []
  | k, e :: t => (ad k, cE cy ad e) :: cWo cy ad (k + 1) t
theorem cWo_eq (cy ad : Nat → Nat) : ∀ (h : mH) (k : Nat), h.mapIdx (fun i e => (ad (i + k), cE cy ad e)) = cWo cy ad k h
  | [], _ => rfl
  | e :: t, k => by
    rw [List.mapIdx_cons]
    unfold cWo
    rw [← cWo_eq cy ad t (k + 1)]
    rw [Nat.zero_add]
    congr 2
    funext i e
    rw [show i + 1 + k = i + (k + 1) by omega]
theorem cW_eq (cy ad : Nat → Nat) (h : mH) : cW cy ad h = cWo cy ad 0 h := cWo_eq cy ad h 0
set_option maxHeartbeats 4000000 in
set_option maxRecDepth 100000 in
theorem z_tail {p : Program} {l : Launch} {e : Env} {s : State} {m : MethodId} {args : Array Value} {below : List Frame} {meth : Method} {c : Code} {D : va_G} {cy ad : Nat → Nat} {adK adV : Nat → Nat} {A : Nat → Prop} {h0 : Nat} {H : Heap} {locs : List Loc} {ls : Array Slot} (hx : p.tables.exec = Jvm.exec) (hb : c.code = prog_1_method_1_code) (hml : c.maxLocals = 2) (hown : s.vm.findClass RX7 = some m.cls) (hts : ∀ w ∈ Tb, w.before args s = true) (hK : va_K D mcl (mty cy) s) (hN : mNw s) (hA : ∀ q, s.heap.size ≤ q → A q) (hR : vk_R RX7 48 "v0;v1;v2;e01;v3;e12;f01;e23;w0;v0;e03;f23;e01;f12;w2;" (adK 0) s) (hJ : JS adK adV A s s.heap) (hr : meth.sig.returnType = none) (hlocks : meth.locks = false) (e0 : ad 0 = h0) (hP : va_P D mcl (cW cy ad (zF 0 zN [])) H) (hD : va_D A (cW cy ad (zF 0 zN []))) (hS : va_S A s.heap H locs) (hl : lv_has ls 2 [(0, .ref (ad 0))]) : W p l e rmZ s m args below meth c H locs 48 1056 (MQ below (va_Qv (R_Z0 cy h0) (nB D cy A) A) args s 48 1056 A) (F0 m 84 ls []) := by
  refine lv_iconst (v := 0) hx hb dn_iZ_84 (by decide) ?_
  refine lv_istore_n (lv' := [(1, .int 0), (0, .ref (ad 0))]) hx hb dn_iZ_85 rfl hl (by decide) rfl (fun ls hl => ?_)
  have hl : lv_has ls 2 [(0, .ref (ad 0)), (1, .int (nI 0))] := lv_sub hl [1, 0] rfl
  refine z_loop hx hb hml hown hts hK hN hA hR hJ ?_ 53 0 zN _ _ _ rfl (fun j hj => absurd hj (Nat.not_lt_zero j)) hP hD hS hl
  clear hP hD hS hl
  intro ta H locs ls ht hP hD hS hl
  refine lv_aload_n hx hb dn_iZ_114 rfl (lv_at hl 0 rfl) ?_
  have hr1 : Rn mprog (0 + 5) n_Z_readText [.ref 0] (zF 53 ta []) (fun r h' => ∃ ptx edx nrx qa, EqR (15, qa) (15, row0) ∧ r = some (.int (-4)) ∧ h' = zW 53 ta 0 zN 15 qa 0 (fun j => j % 6) (fun _ => (0, zN)) 0 (fun j => j % 2) (fun _ => (0, zN)) 0 0 zN zN (fun _ _ => 0) zN zN 0 0 zN zN ptx edx nrx zN (fun _ _ => 0) zN zN 0 0 zN zN []) := first_read ht (fun ptx edx nrx qa hE => ⟨ptx, edx, nrx, qa, hE, rfl, rfl⟩)
  refine gen_V hx hb hml hown hts hK hN hA (As := []) (rest := []) dn_iZ_115 vZ_63 (rmZ_ok (by decide)) hr1 zo_0 rfl rfl (Nat.le_of_ble_eq_true rfl) hl.1 (Nat.le_refl _) (Nat.le_refl _) hP hD hS ?_
  intro rr h1 H1 locs1 hq hP hD hS
  obtain ⟨ptx, edx, nrx, qa, hE, rfl, rfl⟩ := hq
  show W p l e rmZ s m _ below meth c H1 locs1 48 1056 _ (F0 m 118 ls [.int (-4)])
  refine lv_pop hx hb dn_iZ_118 rfl ?_
  refine lv_aload_n hx hb dn_iZ_119 rfl (lv_at hl 0 rfl) ?_
  have hr2 : Rn mprog (0 + 8) n_Z_layTrial [.ref 0] (zW 53 ta 0 zN 15 qa 0 (fun j => j % 6) (fun _ => (0, zN)) 0 (fun j => j % 2) (fun _ => (0, zN)) 0 0 zN zN (fun _ _ => 0) zN zN 0 0 zN zN ptx edx nrx zN (fun _ _ => 0) zN zN 0 0 zN zN []) (fun r h' => ∃ pts edg nr rt sc wf ws bsz bop bbg ben, NI (15, row0) pts edg nr rt sc bsz bop bbg ben ∧ r = none ∧ h' = zW 53 ta 15 (cpA qa zN 15) 15 qa 0 (fun j => j % 6) (fun _ => (0, zN)) 0 (fun j => j % 2) (fun _ => (0, zN)) pts edg nr rt sc wf ws bsz bop bbg ben ptx edx nrx zN (fun _ _ => 0) zN zN 0 0 zN zN []) := first_lay hE (fun _ _ => trivial) (fun pts edg nr rt sc wf ws bsz bop bbg ben hNI => ⟨pts, edg, nr, rt, sc, wf, ws, bsz, bop, bbg, ben, hNI, rfl, rfl⟩)
  refine gen_V hx hb hml hown hts hK hN hA (As := []) (rest := []) dn_iZ_120 vZ_66 (rmZ_ok (by decide)) hr2 zo_0 rfl rfl (Nat.le_of_ble_eq_true rfl) hl.1 (Nat.le_refl _) (Nat.le_refl _) hP hD hS ?_
  intro rr h2 H2 locs2 hq hP hD hS
  obtain ⟨pts, edg, nr, rt, sc, wf, ws, bsz, bop, bbg, ben, hNI, rfl, rfl⟩ := hq
  show W p l e rmZ s m _ below meth c H2 locs2 48 1056 _ (F0 m 123 ls [])
  refine lv_aload_n hx hb dn_iZ_123 rfl (lv_at hl 0 rfl) ?_
  refine va_get (D := D) (ci := 7) (v := .ref (ad 1)) (C := RX7) (T := TX7) (N := 7) hx hb hts inX7 hown hK hP 0 (cW_at zo_0) rfl 0 (by decide) (hts (.fieldLink RX7 10 "ZigzagPieces" "text" "LZigzagPieces$Text;") (Tb_at 473 rfl rfl)) (fun _ h9 => h9) rfl dn_iZ_124 ?_
  have hr3 : Rn mprog (0 + 1) n_Txt_empty [.ref 1] (zW 53 ta 15 (cpA qa zN 15) 15 qa 0 (fun j => j % 6) (fun _ => (0, zN)) 0 (fun j => j % 2) (fun _ => (0, zN)) pts edg nr rt sc wf ws bsz bop bbg ben ptx edx nrx zN (fun _ _ => 0) zN zN 0 0 zN zN []) (fun r h' => r = none ∧ h' = zW 0 ta 15 (cpA qa zN 15) 15 qa 0 (fun j => j % 6) (fun _ => (0, zN)) 0 (fun j => j % 2) (fun _ => (0, zN)) pts edg nr rt sc wf ws bsz bop bbg ben ptx edx nrx zN (fun _ _ => 0) zN zN 0 0 zN zN []) := by
    rw [zv_t]
    exact r_Txt_empty (by rfl) ⟨rfl, rfl⟩
  refine gen_V hx hb hml hown hts hK hN hA (As := []) (rest := []) dn_iZ_127 vZ_69 (rmZ_ok (by decide)) hr3 zo_1 rfl rfl (Nat.le_of_ble_eq_true rfl) hl.1 (Nat.le_refl _) (Nat.le_refl _) hP hD hS ?_
  intro rr h3 H3 locs3 hq hP hD hS
  obtain ⟨rfl, rfl⟩ := hq
  show W p l e rmZ s m _ below meth c H3 locs3 48 1056 _ (F0 m 130 ls [])
  exact W.vret hx hb hr (fun t ht hW => ⟨⟨_, rfl, ⟨ad, _, e0, rfl, rfl, zW_ok, fun suf => first_CIA hE hNI⟩, by rw [ht]; exact hP, va_K.moved hW.alike hK, hD⟩, hS.F ht⟩) hS.2.2 dn_iZ_130
