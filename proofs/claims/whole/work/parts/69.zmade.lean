/-! the class, made: what is needed -/
def okP (e : va_E) : Prop := match e with
  | .inr (_, fs) => (fs.all fun v => match v with
    | .ref k => decide (k < 49)
    | _ => true) = true
  | .inl (_, _, .inr (.inr (.inr (.inr g)))) => ∀ i k, g i = some k → k < 49
  | .inl _ => True
theorem okP_cE {cy ad ad' : Nat → Nat} (h : ∀ k, k < 49 → ad' k = ad k) {e : va_E} (he : okP e) : cE cy ad' e = cE cy ad e := by
  match e, he with
  | .inr (c, fs), he =>
    show Sum.inr (c, fs.map (cz ad')) = Sum.inr (c, fs.map (cz ad))
    congr 2
    refine List.map_congr_left (fun v hv => ?_)
    have hv2 := List.all_eq_true.mp he v hv
    cases v with
    | ref k =>
      have hk : k < 49 := of_decide_eq_true hv2
      show Value.ref (ad' k) = Value.ref (ad k)
      rw [h k hk]
    | _ => rfl
  | .inl (t, n, .inr (.inr (.inr (.inr g)))), he =>
    show Sum.inl (cy t, n, Sum.inr (Sum.inr (Sum.inr (Sum.inr fun i => (g i).map ad')))) = Sum.inl (cy t, n, Sum.inr (Sum.inr (Sum.inr (Sum.inr fun i => (g i).map ad))))
    have e1 : (fun i => (g i).map ad') = (fun i => (g i).map ad) := by
      funext i
      cases q : g i with
      | none => rfl
      | some k =>
        show some (ad' k) = some (ad k)
        rw [h k (he i k q)]
    rw [e1]
  | .inl (t, n, .inl f), _ => rfl
  | .inl (t, n, .inr (.inl f)), _ => rfl
  | .inl (t, n, .inr (.inr (.inl f))), _ => rfl
  | .inl (t, n, .inr (.inr (.inr (.inl f)))), _ => rfl
theorem cW_cl {cy ad ad' : Nat → Nat} (h : ∀ k, k < 49 → ad' k = ad k) {hh : mH} (hl : hh.length = 49) (ho : ∀ e ∈ hh, okP e) : cW cy ad' hh = cW cy ad hh := by
  apply List.ext_getElem?
  intro i
  unfold cW
  rw [List.getElem?_mapIdx, List.getElem?_mapIdx]
  cases q : hh[i]? with
  | none => rfl
  | some e =>
    have hi := (List.getElem?_eq_some_iff.mp q).1
    show some (ad' i, cE cy ad' e) = some (ad i, cE cy ad e)
    rw [h i (by omega), okP_cE h (ho e (List.mem_of_getElem? q))]
theorem okP_sg {t N c M : Nat} (hM : 0 < M) (h : c + 2 + 2 * M ≤ 49) : okP (.inl (t, N, .inr (.inr (.inr (.inr (sgA c (fun j => j % M))))))) := fun i k e => by
  have e2 : c + 2 + 2 * (i % M) = k := Option.some.inj e
  have := Nat.mod_lt i hM
  omega
theorem zW_ok {tl : Nat} {ta : Nat → Nat} {rn : Nat} {ra : Nat → Nat} {qn : Nat} {qa : Nat → Nat} {un : Nat} {us : Nat → Rw} {kn : Nat} {ks : Nat → Rw} {pts : Nat} {edg : Nat} {nr : Nat → Nat} {rt : Nat → Nat} {sc : Nat → Nat → Nat} {wf : Nat → Nat} {ws : Nat → Nat} {bsz : Nat} {bop : Nat} {bbg : Nat → Nat} {ben : Nat → Nat} {ptx : Nat} {edx : Nat} {nrx : Nat → Nat} {rtx : Nat → Nat} {scx : Nat → Nat → Nat} {wfx : Nat → Nat} {wsx : Nat → Nat} {bsx : Nat} {box : Nat} {bbx : Nat → Nat} {bex : Nat → Nat} : ∀ e ∈ zW tl ta rn ra qn qa un (fun j => j % 6) us kn (fun j => j % 2) ks pts edg nr rt sc wf ws bsz bop bbg ben ptx edx nrx rtx scx wfx wsx bsx box bbx bex [], okP e := List.forall_mem_cons.mpr ⟨(rfl : _ = true), List.forall_mem_cons.mpr ⟨(rfl : _ = true), List.forall_mem_cons.mpr ⟨trivial, List.forall_mem_cons.mpr ⟨(rfl : _ = true), List.forall_mem_cons.mpr ⟨trivial, List.forall_mem_cons.mpr ⟨(rfl : _ = true), List.forall_mem_cons.mpr ⟨trivial, List.forall_mem_cons.mpr ⟨(rfl : _ = true), List.forall_mem_cons.mpr ⟨(okP_sg (by decide) (by decide)), List.forall_mem_cons.mpr ⟨(rfl : _ = true), List.forall_mem_cons.mpr ⟨trivial, List.forall_mem_cons.mpr ⟨(rfl : _ = true), List.forall_mem_cons.mpr ⟨trivial, List.forall_mem_cons.mpr ⟨(rfl : _ = true), List.forall_mem_cons.mpr ⟨trivial, List.forall_mem_cons.mpr ⟨(rfl : _ = true), List.forall_mem_cons.mpr ⟨trivial, List.forall_mem_cons.mpr ⟨(rfl : _ = true), List.forall_mem_cons.mpr ⟨trivial, List.forall_mem_cons.mpr ⟨(rfl : _ = true), List.forall_mem_cons.mpr ⟨trivial, List.forall_mem_cons.mpr ⟨(rfl : _ = true), List.forall_mem_cons.mpr ⟨(okP_sg (by decide) (by decide)), List.forall_mem_cons.mpr ⟨(rfl : _ = true), List.forall_mem_cons.mpr ⟨trivial, List.forall_mem_cons.mpr ⟨(rfl : _ = true), List.forall_mem_cons.mpr ⟨trivial, List.forall_mem_cons.mpr ⟨(rfl : _ = true), List.forall_mem_cons.mpr ⟨(rfl : _ = true), List.forall_mem_cons.mpr ⟨trivial, List.forall_mem_cons.mpr ⟨(rfl : _ = true), List.forall_mem_cons.mpr ⟨trivial, List.forall_mem_cons.mpr ⟨trivial, List.forall_mem_cons.mpr ⟨trivial, List.forall_mem_cons.mpr ⟨trivial, List.forall_mem_cons.mpr ⟨(rfl : _ = true), List.forall_mem_cons.mpr ⟨trivial, List.forall_mem_cons.mpr ⟨trivial, List.forall_mem_cons.mpr ⟨(rfl : _ = true), List.forall_mem_cons.mpr ⟨(rfl : _ = true), List.forall_mem_cons.mpr ⟨trivial, List.forall_mem_cons.mpr ⟨(rfl : _ = true), List.forall_mem_cons.mpr ⟨trivial, List.forall_mem_cons.mpr ⟨trivial, List.forall_mem_cons.mpr ⟨trivial, List.forall_mem_cons.mpr ⟨trivial, List.forall_mem_cons.mpr ⟨(rfl : _ = true), List.forall_mem_cons.mpr ⟨trivial, List.forall_mem_cons.mpr ⟨trivial, fun _ h => absurd h List.not_mem_nil⟩⟩⟩⟩⟩⟩⟩⟩⟩⟩⟩⟩⟩⟩⟩⟩⟩⟩⟩⟩⟩⟩⟩⟩⟩⟩⟩⟩⟩⟩⟩⟩⟩⟩⟩⟩⟩⟩⟩⟩⟩⟩⟩⟩⟩⟩⟩⟩⟩
theorem arr_ext {cA : ClassId} {n : Nat} {f g : Nat → Value} (h : ∀ j, j < n → f j = g j) : arrV cA n f = arrV cA n g := by
  unfold arrV
  congr 1
  apply Array.ext
  · simp
  · intro i h1 h2
    simp at h1
    simp [h i h1]
theorem rep_P {D : va_G} {cl : List vw_C} {ws : va_W} {H : Heap} {i a n : Nat} {cA : ClassId} {f g : Nat → Option Nat} (hP : va_P D cl ws H) (h : ws[i]? = some (a, .inl (cA, n, .inr (.inr (.inr (.inr f)))))) (e : ∀ j, j < n → f j = g j) : va_P D cl (ws.set i (a, .inl (cA, n, .inr (.inr (.inr (.inr g)))))) H := by
  intro k q hq
  by_cases ek : k = i
  · subst ek
    have hl := (List.getElem?_eq_some_iff.mp h).1
    rw [List.getElem?_set_self hl] at hq
    cases hq
    have h0 : H[a]? = some (vp_cell cA (n, .inr (.inr (.inr (.inr f))))) := hP k _ h
    show H[a]? = some (vp_cell cA (n, .inr (.inr (.inr (.inr g)))))
    rw [h0]
    show some (arrV cA n (fun j => va_rf (f j))) = some (arrV cA n (fun j => va_rf (g j)))
    have e2 : arrV cA n (fun j => va_rf (f j)) = arrV cA n (fun j => va_rf (g j)) := arr_ext (fun j hj => by rw [e j hj])
    rw [e2]
  · rw [List.getElem?_set_ne (Ne.symm ek)] at hq
    exact hP k q hq
set_option maxHeartbeats 4000000 in
theorem gen_V {p : Program} {l : Launch} {e : Env} {R : Room} {s : State} {m : MethodId} {args : Array Value} {below : List Frame} {meth : Method} {c : Code} {D : va_G} {cy ad : Nat → Nat} {A : Nat → Prop} {cc : ByteArray} {nL : Nat} {own : String} (hx : p.tables.exec = Jvm.exec) (hb : c.code = cc) (hml : c.maxLocals = nL) (hown : s.vm.findClass own = some m.cls) (hts : ∀ w ∈ Tb, w.before args s = true) (hK : va_K D mcl (mty cy) s) (hN : mNw s) (hA : ∀ q, s.heap.size ≤ q → A q) {idx x y z pc dd o cells slots : Nat} {As rest st : List Value} {fs : List Value} {h : mH} {P' : Option Value → mH → Prop} {H : Heap} {locs : List Loc} {ls : Array Slot} {Q : State → Prop} (hd : decode cc pc = .ok (.invokevirtual idx, 3)) (hl : VOK mprog own idx x y z) (hroom : ∀ mL, mL ≤ 11 → (mRm dd).frames + 1 ≤ R.frames ∧ 8 + (mL + 11) + (mRm dd).locals ≤ R.locals) (hr : Rn mprog dd x (.ref o :: As) h P') (ho : h[o]? = some (.inr (z, fs))) (hy : As.length + 1 = y) (hst : st = (As.map (cz ad)).reverse ++ .ref (ad o) :: rest) (h8 : (rest.map fun v => v.category).sum ≤ 8) (hls : ls.size = nL) (hc0 : cells ≤ R.cells) (hs0 : slots ≤ R.slots) (hP : va_P D mcl (cW cy ad h) H) (hD : va_D A (cW cy ad h)) (hS : va_S A s.heap H locs)
    (kk : ∀ (r : Option Value) (h' : mH) (H1 : Heap) (locs1 : List Loc), P' r h' → va_P D mcl (cW cy ad h') H1 → va_D A (cW cy ad h') → va_S A s.heap H1 locs1 → W p l e R s m args below meth c H1 locs1 cells slots Q (F0 m (pc + 3) ls ((r.map (cz ad)).toList ++ rest))) : W p l e R s m args below meth c H locs cells slots Q (F0 m pc ls st) := by
  obtain ⟨yn, bb, mL, rt', C, n, hM, hyn, hn, hinst, hsel, ⟨T, N, hz⟩, hlink⟩ := hl
  obtain ⟨hcode, hini, hpl, hmh, hvh, hmL, -⟩ := mprog_ok _ (List.mem_of_getElem? hM)
  have hmet := snd_run (l := l) mprog_ok D cy ad dd _ _ _ _ hr H.size yn bb mL rt' C hM
  have hrecv := va_recv hK hP (ci := z) (q0 := o) hz (cW_at ho)
  have hlen : (As.map (cz ad)).length = n := by rw [List.length_map]; omega
  have hrun : va_Run p l e R s m args below meth c H locs cells slots 0 0 (F0 m pc ls st) rest (mQc D cy ad h H.size P' ((.ref o :: As).map (cz ad)).toArray) (va_A (cW cy ad h) H.size) := by
    rcases hlink with hlink | ⟨host, hlink⟩
    · exact va_runV (cc := cc) (nL := nL) (Ts := Tb) (own := own) (C := yn.cls) (n := n) (bytes := bb) (maxL := mL) (ret := rt') (As := As.map (cz ad)) ⟨hx, hb, hml, hown, hts⟩ hmet ⟨callB_of n hts (mGood hcode) rfl rfl rfl (hts _ hini) (hts _ hlink) ⟨hmh, hvh, hn⟩ (hroom mL hmL), hts _ hinst, hts _ hsel⟩ ⟨mPc_blind, hrecv, mPre (a := .ref o :: As) hP hD hK hN⟩ rfl hlen hls hst (lv_room h8) hd ⟨hc0, hs0⟩
    · exact va_runVN (cc := cc) (nL := nL) (Ts := Tb) (own := own) (C := yn.cls) (n := n) (bytes := bb) (maxL := mL) (ret := rt') (As := As.map (cz ad)) ⟨hx, hb, hml, hown, hts⟩ hmet ⟨va_cnB n hts (mGood hcode) rfl rfl rfl (hN _ hlink) (hts _ hini) ⟨hmh, hvh, hn⟩ (hroom mL hmL), hts _ hinst, hts _ hsel⟩ ⟨mPc_blind, hrecv, mPre (a := .ref o :: As) hP hD hK hN⟩ rfl hlen hls hst (lv_room h8) hd ⟨hc0, hs0⟩
  exact va_callg hrun hS (fun q _ hq => mA_sub hD hS hA q hq) (mA_sub hD hS hA) (fun r h' H1 locs1 hp hP1 hD1 hS1 => kk r h' H1 locs1 hp hP1 (hD1.weaken (fun _ q _ hq => mA_sub hD hS hA q.1 hq)) hS1)
theorem dn_iZ_0 : decode prog_1_method_1_code 0 = .ok (.aload_n 0, 1) := by decide +kernel
theorem dn_iZ_1 : decode prog_1_method_1_code 1 = .ok (.invokespecial 1, 3) := by decide +kernel
theorem dn_iZ_4 : decode prog_1_method_1_code 4 = .ok (.aload_n 0, 1) := by decide +kernel
theorem dn_iZ_5 : decode prog_1_method_1_code 5 = .ok (.new 7, 3) := by decide +kernel
theorem dn_iZ_8 : decode prog_1_method_1_code 8 = .ok (.dup, 1) := by decide +kernel
theorem dn_iZ_9 : decode prog_1_method_1_code 9 = .ok (.invokespecial 9, 3) := by decide +kernel
theorem dn_iZ_12 : decode prog_1_method_1_code 12 = .ok (.putfield 10, 3) := by decide +kernel
theorem dn_iZ_15 : decode prog_1_method_1_code 15 = .ok (.aload_n 0, 1) := by decide +kernel
theorem dn_iZ_16 : decode prog_1_method_1_code 16 = .ok (.new 16, 3) := by decide +kernel
theorem dn_iZ_19 : decode prog_1_method_1_code 19 = .ok (.dup, 1) := by decide +kernel
theorem dn_iZ_20 : decode prog_1_method_1_code 20 = .ok (.invokespecial 18, 3) := by decide +kernel
theorem dn_iZ_23 : decode prog_1_method_1_code 23 = .ok (.putfield 19, 3) := by decide +kernel
theorem dn_iZ_26 : decode prog_1_method_1_code 26 = .ok (.aload_n 0, 1) := by decide +kernel
theorem dn_iZ_27 : decode prog_1_method_1_code 27 = .ok (.new 16, 3) := by decide +kernel
theorem dn_iZ_30 : decode prog_1_method_1_code 30 = .ok (.dup, 1) := by decide +kernel
theorem dn_iZ_31 : decode prog_1_method_1_code 31 = .ok (.invokespecial 18, 3) := by decide +kernel
theorem dn_iZ_34 : decode prog_1_method_1_code 34 = .ok (.putfield 23, 3) := by decide +kernel
theorem dn_iZ_37 : decode prog_1_method_1_code 37 = .ok (.aload_n 0, 1) := by decide +kernel
theorem dn_iZ_38 : decode prog_1_method_1_code 38 = .ok (.new 26, 3) := by decide +kernel
theorem dn_iZ_41 : decode prog_1_method_1_code 41 = .ok (.dup, 1) := by decide +kernel
theorem dn_iZ_42 : decode prog_1_method_1_code 42 = .ok (.bipush 6, 2) := by decide +kernel
theorem dn_iZ_44 : decode prog_1_method_1_code 44 = .ok (.invokespecial 28, 3) := by decide +kernel
theorem dn_iZ_47 : decode prog_1_method_1_code 47 = .ok (.putfield 31, 3) := by decide +kernel
theorem dn_iZ_50 : decode prog_1_method_1_code 50 = .ok (.aload_n 0, 1) := by decide +kernel
theorem dn_iZ_51 : decode prog_1_method_1_code 51 = .ok (.new 26, 3) := by decide +kernel
theorem dn_iZ_54 : decode prog_1_method_1_code 54 = .ok (.dup, 1) := by decide +kernel
theorem dn_iZ_55 : decode prog_1_method_1_code 55 = .ok (.iconst 2, 1) := by decide +kernel
theorem dn_iZ_56 : decode prog_1_method_1_code 56 = .ok (.invokespecial 28, 3) := by decide +kernel
theorem dn_iZ_59 : decode prog_1_method_1_code 59 = .ok (.putfield 35, 3) := by decide +kernel
theorem dn_iZ_62 : decode prog_1_method_1_code 62 = .ok (.aload_n 0, 1) := by decide +kernel
theorem dn_iZ_63 : decode prog_1_method_1_code 63 = .ok (.new 38, 3) := by decide +kernel
theorem dn_iZ_66 : decode prog_1_method_1_code 66 = .ok (.dup, 1) := by decide +kernel
theorem dn_iZ_67 : decode prog_1_method_1_code 67 = .ok (.invokespecial 40, 3) := by decide +kernel
theorem dn_iZ_70 : decode prog_1_method_1_code 70 = .ok (.putfield 41, 3) := by decide +kernel
theorem dn_iZ_73 : decode prog_1_method_1_code 73 = .ok (.aload_n 0, 1) := by decide +kernel
theorem dn_iZ_74 : decode prog_1_method_1_code 74 = .ok (.new 38, 3) := by decide +kernel
theorem dn_iZ_77 : decode prog_1_method_1_code 77 = .ok (.dup, 1) := by decide +kernel
theorem dn_iZ_78 : decode prog_1_method_1_code 78 = .ok (.invokespecial 40, 3) := by decide +kernel
theorem dn_iZ_81 : decode prog_1_method_1_code 81 = .ok (.putfield 45, 3) := by decide +kernel
theorem dn_iZ_84 : decode prog_1_method_1_code 84 = .ok (.iconst 0, 1) := by decide +kernel
theorem dn_iZ_85 : decode prog_1_method_1_code 85 = .ok (.istore_n 1, 1) := by decide +kernel
theorem dn_iZ_86 : decode prog_1_method_1_code 86 = .ok (.iload_n 1, 1) := by decide +kernel
theorem dn_iZ_87 : decode prog_1_method_1_code 87 = .ok (.ldc 48, 2) := by decide +kernel
theorem dn_iZ_89 : decode prog_1_method_1_code 89 = .ok (.invokevirtual 50, 3) := by decide +kernel
theorem dn_iZ_92 : decode prog_1_method_1_code 92 = .ok (.if_icmp .ge 22, 3) := by decide +kernel
theorem dn_iZ_95 : decode prog_1_method_1_code 95 = .ok (.aload_n 0, 1) := by decide +kernel
theorem dn_iZ_96 : decode prog_1_method_1_code 96 = .ok (.getfield 10, 3) := by decide +kernel
theorem dn_iZ_99 : decode prog_1_method_1_code 99 = .ok (.ldc 48, 2) := by decide +kernel
theorem dn_iZ_101 : decode prog_1_method_1_code 101 = .ok (.iload_n 1, 1) := by decide +kernel
theorem dn_iZ_102 : decode prog_1_method_1_code 102 = .ok (.invokevirtual 56, 3) := by decide +kernel
theorem dn_iZ_105 : decode prog_1_method_1_code 105 = .ok (.invokevirtual 60, 3) := by decide +kernel
theorem dn_iZ_108 : decode prog_1_method_1_code 108 = .ok (.iinc 1 1, 3) := by decide +kernel
theorem dn_iZ_111 : decode prog_1_method_1_code 111 = .ok (.goto (-25), 3) := by decide +kernel
theorem dn_iZ_114 : decode prog_1_method_1_code 114 = .ok (.aload_n 0, 1) := by decide +kernel
theorem dn_iZ_115 : decode prog_1_method_1_code 115 = .ok (.invokevirtual 63, 3) := by decide +kernel
theorem dn_iZ_118 : decode prog_1_method_1_code 118 = .ok (.pop, 1) := by decide +kernel
theorem dn_iZ_119 : decode prog_1_method_1_code 119 = .ok (.aload_n 0, 1) := by decide +kernel
theorem dn_iZ_120 : decode prog_1_method_1_code 120 = .ok (.invokevirtual 66, 3) := by decide +kernel
theorem dn_iZ_123 : decode prog_1_method_1_code 123 = .ok (.aload_n 0, 1) := by decide +kernel
theorem dn_iZ_124 : decode prog_1_method_1_code 124 = .ok (.getfield 10, 3) := by decide +kernel
theorem dn_iZ_127 : decode prog_1_method_1_code 127 = .ok (.invokevirtual 69, 3) := by decide +kernel
theorem dn_iZ_130 : decode prog_1_method_1_code 130 = .ok (.return_, 1) := by decide +kernel
set_option maxRecDepth 20000 in
theorem vZ_60 : VOK mprog RX7 60 n_Txt_add 2 6 := ⟨⟨"ZigzagPieces$Text", "add", "(I)V"⟩, prog_8_method_4_code, 2, none, k_Txt_add, 1, rfl, rfl, by decide +kernel, Tb_at 239 rfl rfl, Tb_at 240 rfl rfl, ⟨TX6, 2, rfl⟩, Or.inl (Tb_at 238 rfl rfl)⟩
set_option maxRecDepth 20000 in
theorem vZ_63 : VOK mprog RX7 63 n_Z_readText 1 7 := ⟨⟨"ZigzagPieces", "readText", "()I"⟩, prog_1_method_26_code, 5, (some .int), k_Z_readText, 0, rfl, rfl, by decide +kernel, Tb_at 244 rfl rfl, Tb_at 0 rfl rfl, ⟨TX7, 7, rfl⟩, Or.inl (Tb_at 242 rfl rfl)⟩
set_option maxRecDepth 20000 in
theorem vZ_66 : VOK mprog RX7 66 n_Z_layTrial 1 7 := ⟨⟨"ZigzagPieces", "layTrial", "()V"⟩, prog_1_method_27_code, 1, none, k_Z_layTrial, 0, rfl, rfl, by decide +kernel, Tb_at 338 rfl rfl, Tb_at 3 rfl rfl, ⟨TX7, 7, rfl⟩, Or.inl (Tb_at 336 rfl rfl)⟩
set_option maxRecDepth 20000 in
theorem vZ_69 : VOK mprog RX7 69 n_Txt_empty 1 6 := ⟨⟨"ZigzagPieces$Text", "empty", "()V"⟩, prog_8_method_3_code, 1, none, k_Txt_empty, 0, rfl, rfl, by decide +kernel, Tb_at 470 rfl rfl, Tb_at 471 rfl rfl, ⟨TX6, 2, rfl⟩, Or.inl (Tb_at 469 rfl rfl)⟩
abbrev rmZ : Room := { frames := 9, cells := 48, slots := 1056, locals := 270 }
theorem rmZ_ok {dd : Nat} (h : dd ≤ 8) : ∀ mL, mL ≤ 11 → (mRm dd).frames + 1 ≤ rmZ.frames ∧ 8 + (mL + 11) + (mRm dd).locals ≤ rmZ.locals := fun mL hm => by
  unfold mRm
  dsimp only [rmZ]
  omega
theorem z_add {i v : Nat} {ta : Nat → Nat} (hi : i < 200) : Rn mprog (0 + 1) n_Txt_add [.ref 1, .int (nI v)] (zF i ta []) (fun r h' => r = none ∧ h' = zF (i + 1) (uN' ta i v) []) := by
  unfold zF
  rw [zv_t]
  exact r_Txt_add (by rfl) hi ⟨rfl, rfl⟩
set_option maxHeartbeats 4000000 in
set_option maxRecDepth 100000 in
theorem z_loop {p : Program} {l : Launch} {e : Env} {s : State} {m : MethodId} {args : Array Value} {below : List Frame} {meth : Method} {c : Code} {D : va_G} {cy ad : Nat → Nat} {adK adV : Nat → Nat} {A : Nat → Prop} {QQ : State → Prop} (hx : p.tables.exec = Jvm.exec) (hb : c.code = prog_1_method_1_code) (hml : c.maxLocals = 2) (hown : s.vm.findClass RX7 = some m.cls) (hts : ∀ w ∈ Tb, w.before args s = true) (hK : va_K D mcl (mty cy) s) (hN : mNw s) (hA : ∀ q, s.heap.size ≤ q → A q) (hR : vk_R RX7 48 "v0;v1;v2;e01;v3;e12;f01;e23;w0;v0;e03;f23;e01;f12;w2;" (adK 0) s) (hJ : JS adK adV A s s.heap) (K : ∀ (ta : Nat → Nat) (H : Heap) (locs : List Loc) (ls : Array Slot), (∀ j, j < 53 → ta j = ftx j) → va_P D mcl (cW cy ad (zF 53 ta [])) H → va_D A (cW cy ad (zF 53 ta [])) → va_S A s.heap H locs → lv_has ls 2 [(0, .ref (ad 0)), (1, .int (nI 53))] → W p l e rmZ s m args below meth c H locs 48 1056 QQ (F0 m 114 ls [])) : ∀ (n i : Nat) (ta : Nat → Nat) (H : Heap) (locs : List Loc) (ls : Array Slot), i + n = 53 → (∀ j, j < i → ta j = ftx j) → va_P D mcl (cW cy ad (zF i ta [])) H → va_D A (cW cy ad (zF i ta [])) → va_S A s.heap H locs → lv_has ls 2 [(0, .ref (ad 0)), (1, .int (nI i))] → W p l e rmZ s m args below meth c H locs 48 1056 QQ (F0 m 86 ls []) := by
  intro n
  induction n with
  | zero =>
    intro i ta H locs ls hi ht hP hD hS hl
    have ei : i = 53 := by omega
    subst ei
    refine lv_iload_n hx hb dn_iZ_86 rfl (lv_at hl 1 rfl) ?_
    refine va_ldcS hx hb hown hR dn_iZ_87 ?_
    refine va_calli (va_runV (cc := prog_1_method_1_code) (nL := 2) (Ts := Tb) (own := RX7) (C := "java/lang/String") (bytes := prog_13_method_54_code) (maxL := 1) (As := []) (rest := [.int (nI 53)]) ⟨hx, hb, hml, hown, hts⟩ (s_length l adK adV) ⟨callB_of 0 hts (mGood (Tb_at 193 rfl rfl)) rfl rfl rfl (hts (.initialized "java/lang/String") (Tb_at 55 rfl rfl)) (hts _ (Tb_at 190 rfl rfl)) ⟨by decide, by decide, by decide +kernel⟩ ⟨Nat.le_of_ble_eq_true rfl, Nat.le_of_ble_eq_true rfl⟩, hts _ (Tb_at 191 rfl rfl), hts _ (Tb_at 192 rfl rfl)⟩ ⟨JS_blind, vk_recv hJ.1 (i := 0) (by decide) hS, JS_pre hJ hS⟩ rfl rfl hl.1 rfl (lv_room (Nat.le_of_ble_eq_true rfl)) dn_iZ_89 ⟨Nat.le_of_ble_eq_true rfl, Nat.le_of_ble_eq_true rfl⟩) hS (fun q _ h => h.elim) (fun q h => h.elim) (fun r u t H1 locs1 ht1 hvm hw hB hz1 hk1 hS => ?_)
    subst hw
    have hP := hP.kept (fun k q h => hk1 q.1 (hP k q h).lt (fun z => z))
    refine lv_icmp_ge (tgt := 114) hx hb dn_iZ_92 (by decide) (fun _ => ?_) (fun c => absurd (by decide) c)
    exact K ta H1 locs1 ls ht hP hD hS hl
  | succ n ih =>
    intro i ta H locs ls hi ht hP hD hS hl
    have h53 : i < 53 := by omega
    refine lv_iload_n hx hb dn_iZ_86 rfl (lv_at hl 1 rfl) ?_
    refine va_ldcS hx hb hown hR dn_iZ_87 ?_
    refine va_calli (va_runV (cc := prog_1_method_1_code) (nL := 2) (Ts := Tb) (own := RX7) (C := "java/lang/String") (bytes := prog_13_method_54_code) (maxL := 1) (As := []) (rest := [.int (nI i)]) ⟨hx, hb, hml, hown, hts⟩ (s_length l adK adV) ⟨callB_of 0 hts (mGood (Tb_at 193 rfl rfl)) rfl rfl rfl (hts (.initialized "java/lang/String") (Tb_at 55 rfl rfl)) (hts _ (Tb_at 190 rfl rfl)) ⟨by decide, by decide, by decide +kernel⟩ ⟨Nat.le_of_ble_eq_true rfl, Nat.le_of_ble_eq_true rfl⟩, hts _ (Tb_at 191 rfl rfl), hts _ (Tb_at 192 rfl rfl)⟩ ⟨JS_blind, vk_recv hJ.1 (i := 0) (by decide) hS, JS_pre hJ hS⟩ rfl rfl hl.1 rfl (lv_room (Nat.le_of_ble_eq_true rfl)) dn_iZ_89 ⟨Nat.le_of_ble_eq_true rfl, Nat.le_of_ble_eq_true rfl⟩) hS (fun q _ h => h.elim) (fun q h => h.elim) (fun r u t H1 locs1 ht1 hvm hw hB hz1 hk1 hS => ?_)
    subst hw
    have hP := hP.kept (fun k q h => hk1 q.1 (hP k q h).lt (fun z => z))
    refine lv_icmp_ge (tgt := 114) hx hb dn_iZ_92 (by decide) (fun c => absurd ((nI_ltI (b := 53) (by omega) (by decide)).mpr h53) (Int32.not_lt.mpr c)) (fun _ => ?_)
    refine lv_aload_n hx hb dn_iZ_95 rfl (lv_at hl 0 rfl) ?_
    refine va_get (D := D) (ci := 7) (v := .ref (ad 1)) (C := RX7) (T := TX7) (N := 7) hx hb hts inX7 hown hK hP 0 (cW_at zo_0) rfl 0 (by decide) (hts (.fieldLink RX7 10 "ZigzagPieces" "text" "LZigzagPieces$Text;") (Tb_at 473 rfl rfl)) (fun _ h9 => h9) rfl dn_iZ_96 ?_
    refine va_ldcS hx hb hown hR dn_iZ_99 ?_
    refine lv_iload_n hx hb dn_iZ_101 rfl (lv_at hl 1 rfl) ?_
    refine va_calli (va_runV (cc := prog_1_method_1_code) (nL := 2) (Ts := Tb) (own := RX7) (C := "java/lang/String") (bytes := prog_13_method_56_code) (maxL := 2) (As := [.int (nI i)]) (rest := [.ref (ad 1)]) ⟨hx, hb, hml, hown, hts⟩ (s_charAt l adK adV h53) ⟨callB_of 1 hts (mGood (Tb_at 203 rfl rfl)) rfl rfl rfl (hts (.initialized "java/lang/String") (Tb_at 55 rfl rfl)) (hts _ (Tb_at 200 rfl rfl)) ⟨by decide, by decide, by decide +kernel⟩ ⟨Nat.le_of_ble_eq_true rfl, Nat.le_of_ble_eq_true rfl⟩, hts _ (Tb_at 201 rfl rfl), hts _ (Tb_at 202 rfl rfl)⟩ ⟨JS_blind, vk_recv hJ.1 (i := 0) (by decide) hS, JS_pre hJ hS⟩ rfl rfl hl.1 rfl (lv_room (Nat.le_of_ble_eq_true rfl)) dn_iZ_102 ⟨Nat.le_of_ble_eq_true rfl, Nat.le_of_ble_eq_true rfl⟩) hS (fun q _ h => h.elim) (fun q h => h.elim) (fun r u t H2 locs2 ht2 hvm hw hB hz2 hk2 hS => ?_)
    subst hw
    have hP := hP.kept (fun k q h => hk2 q.1 (hP k q h).lt (fun z => z))
    rw [(ch_ok ⟨i, h53⟩).1]
    refine gen_V hx hb hml hown hts hK hN hA (As := [.int (nI (ftx i))]) (rest := []) dn_iZ_105 vZ_60 (rmZ_ok (by decide)) (z_add (by omega)) zo_1 rfl rfl (Nat.le_of_ble_eq_true rfl) hl.1 (Nat.le_refl _) (Nat.le_refl _) hP hD hS ?_
    intro rr h1 H3 locs3 hq hP hD hS
    obtain ⟨rfl, rfl⟩ := hq
    show W p l e rmZ s m args below meth c H3 locs3 48 1056 QQ (F0 m 108 ls [])
    refine lv_iinc (v := nI (i + 1)) (lv' := [(1, .int (nI (i + 1))), (0, .ref (ad 0))]) hx hb dn_iZ_108 hl (k := 1) rfl (nI_add i 1) (by decide) rfl (fun ls3 hl3 => ?_)
    refine lv_goto (tgt := 86) hx hb dn_iZ_111 (by decide) ?_
    exact ih (i + 1) _ H3 locs3 ls3 (by omega) (fun j hj => if ej : j = i then (by rw [ej, uN_s]) else (by rw [uN_n ej]; exact ht j (by omega))) hP hD hS (lv_sub hl3 [1, 0] rfl)
