/-! the law: its calls, its loop -/
def LX (p : Program) (s : State) (m : MethodId) (meth : Method) (c : Code) (D : va_G) (cy ad : Nat → Nat) (b L : Nat) (xs : Nat → Int32) : Prop :=
  p.tables.exec = Jvm.exec ∧ c.code = code ∧ meth.sig.returnType = ret ∧ c.maxLocals = 4 ∧ s.vm.findClass R_law = some m.cls ∧ (∀ w ∈ Tb, w.before #[Value.ref b] s = true) ∧ va_K D mcl (mty cy) s ∧ mNw s ∧ va_X b L xs s s.heap ∧ b < s.heap.size ∧ meth.locks = false
theorem lawRoom {mL dd : Nat} (h : mL ≤ 11) (hd : dd ≤ 9) : (mRm dd).frames + 1 ≤ room_1.frames ∧ 8 + (mL + 11) + (mRm dd).locals ≤ room_1.locals := by
  unfold mRm room_1
  dsimp only
  omega
theorem CIA_o {suf h : mH} {A : AS} (hC : CIA suf A h) : ∃ fs, h[0]? = some (.inr (7, fs)) := by
  obtain ⟨ta, ra, qn, qa, σ, us, ρ, ks, pts, edg, nr, rt, sc, wf, ws, bsz, bop, bbg, ben, ptx, edx, nrx, rtx, scx, wfx, wsx, bsx, box, bbx, bex, rfl, -⟩ := hC
  exact ⟨_, zo_0⟩
theorem RIA_o {pre h : mH} {A : AS} (hb : pre.length = 49) (hR : RIA 49 pre A h) : ∃ fs, h[49]? = some (.inr (8, fs)) := by
  obtain ⟨tn, ap, wb, tx, sq, pa, ke, to, wg, we, th, pcs, brs, be, po, ro, kf, bg, en, rfl, -⟩ := hR
  exact ⟨_, mS_o hb⟩
set_option maxHeartbeats 4000000 in
theorem law_V {p : Program} {l : Launch} {e : Env} {s : State} {m : MethodId} {below : List Frame} {meth : Method} {c : Code} {D : va_G} {cy ad : Nat → Nat} {b L : Nat} {xs : Nat → Int32} (X : LX p s m meth c D cy ad b L xs) {idx x y z pc dd o cells slots : Nat} {As rest st : List Value} {fs : List Value} {h : mH} {P' : Option Value → mH → Prop} {H : Heap} {locs : List Loc} {ls : Array Slot} {Q : State → Prop} (hd : decode code pc = .ok (.invokevirtual idx, 3)) (hl : VOK mprog R_law idx x y z) (hdd : dd ≤ 9) (hr : Rn mprog dd x (.ref o :: As) h P') (ho : h[o]? = some (.inr (z, fs))) (hy : As.length + 1 = y) (hst : st = (As.map (cz ad)).reverse ++ .ref (ad o) :: rest) (h8 : (rest.map fun v => v.category).sum ≤ 8) (hls : ls.size = 4) (hc0 : cells ≤ 600000) (hs0 : slots ≤ 7302250) (hP : va_P D mcl (cW cy ad h) H) (hD : va_D (fun q : Nat => s.heap.size ≤ q) (cW cy ad h)) (hS : va_S (fun q : Nat => s.heap.size ≤ q) s.heap H locs)
    (kk : ∀ (r : Option Value) (h' : mH) (H1 : Heap) (locs1 : List Loc), P' r h' → va_P D mcl (cW cy ad h') H1 → va_D (fun q : Nat => s.heap.size ≤ q) (cW cy ad h') → va_S (fun q : Nat => s.heap.size ≤ q) s.heap H1 locs1 → W p l e room_1 s m #[Value.ref b] below meth c H1 locs1 cells slots Q (F0 m (pc + 3) ls ((r.map (cz ad)).toList ++ rest))) : W p l e room_1 s m #[Value.ref b] below meth c H locs cells slots Q (F0 m pc ls st) := by
  obtain ⟨hx, hb, hrt, hml, hown, hts, hK, hN, hX, hbl, hlocks⟩ := X
  obtain ⟨yn, bb, mL, rt', C, n, hM, hyn, hn, hinst, hsel, ⟨T, N, hz⟩, hlink⟩ := hl
  obtain ⟨hcode, hini, hpl, hmh, hvh, hmL, -⟩ := mprog_ok _ (List.mem_of_getElem? hM)
  have hA : ∀ q, s.heap.size ≤ q → (fun q : Nat => s.heap.size ≤ q) q := fun _ h => h
  have hmet := snd_run (l := l) mprog_ok D cy ad dd _ _ _ _ hr H.size yn bb mL rt' C hM
  have hrecv := va_recv hK hP (ci := z) (q0 := o) hz (cW_at ho)
  have hlen : (As.map (cz ad)).length = n := by rw [List.length_map]; omega
  have hrun : va_Run p l e room_1 s m #[Value.ref b] below meth c H locs cells slots 0 0 (F0 m pc ls st) rest (mQc D cy ad h H.size P' ((.ref o :: As).map (cz ad)).toArray) (va_A (cW cy ad h) H.size) := by
    rcases hlink with hlink | ⟨host, hlink⟩
    · exact va_runV (cc := code) (nL := 4) (Ts := Tb) (own := R_law) (C := yn.cls) (n := n) (bytes := bb) (maxL := mL) (ret := rt') (As := As.map (cz ad)) ⟨hx, hb, hml, hown, hts⟩ hmet ⟨callB_of n hts (mGood hcode) rfl rfl rfl (hts _ hini) (hts _ hlink) ⟨hmh, hvh, hn⟩ (lawRoom hmL hdd), hts _ hinst, hts _ hsel⟩ ⟨mPc_blind, hrecv, mPre (a := .ref o :: As) hP hD hK hN⟩ rfl hlen hls hst (lv_room h8) hd ⟨hc0, hs0⟩
    · exact va_runVN (cc := code) (nL := 4) (Ts := Tb) (own := R_law) (C := yn.cls) (n := n) (bytes := bb) (maxL := mL) (ret := rt') (As := As.map (cz ad)) ⟨hx, hb, hml, hown, hts⟩ hmet ⟨va_cnB n hts (mGood hcode) rfl rfl rfl (hN _ hlink) (hts _ hini) ⟨hmh, hvh, hn⟩ (lawRoom hmL hdd), hts _ hinst, hts _ hsel⟩ ⟨mPc_blind, hrecv, mPre (a := .ref o :: As) hP hD hK hN⟩ rfl hlen hls hst (lv_room h8) hd ⟨hc0, hs0⟩
  exact va_callg hrun hS (fun q _ hq => mA_sub hD hS hA q hq) (mA_sub hD hS hA) (fun r h' H1 locs1 hp hP1 hD1 hS1 => kk r h' H1 locs1 hp hP1 (hD1.weaken (fun _ q _ hq => mA_sub hD hS hA q.1 hq)) hS1)
def LGo (p : Program) (l : Launch) (e : Env) (s : State) (m : MethodId) (below : List Frame) (meth : Method) (c : Code) (D : va_G) (cy ad : Nat → Nat) (b : Nat) (k0 n0 pc i : Nat) : Prop := ∀ (A : AS) (h : mH) (H : Heap) (locs : List Loc) (ls : Array Slot), JA A h → va_P D mcl (cW cy ad h) H → va_D (fun q : Nat => s.heap.size ≤ q) (cW cy ad h) → va_S (fun q : Nat => s.heap.size ≤ q) s.heap H locs → lv_has ls 4 [(0, .ref b), (1, .ref (ad 0)), (2, .ref (ad 49)), (3, .int (nI i))] → W p l e room_1 s m #[Value.ref b] below meth c H locs k0 n0 (lw_Z below #[Value.ref b] s) (F0 m pc ls [])
set_option maxHeartbeats 4000000 in
set_option maxRecDepth 100000 in
theorem law_write {p : Program} {l : Launch} {e : Env} {s : State} {m : MethodId} {below : List Frame} {meth : Method} {c : Code} {D : va_G} {cy ad : Nat → Nat} {b L : Nat} {xs : Nat → Int32} (X : LX p s m meth c D cy ad b L xs) {k0 n0 i : Nat} (hk0 : k0 ≤ 600000) (hn0 : n0 ≤ 7302250) (hL : L ≤ 2048) (hi : i + 4 ≤ L) (K : LGo p l e s m below meth c D cy ad b k0 n0 676 i) : LGo p l e s m below meth c D cy ad b k0 n0 144 i := by
  have X0 := X
  obtain ⟨hx, hb, hrt, hml, hown, hts, hK, hN, hX, hbl, hlocks⟩ := X
  intro A h H locs ls hJ hP hD hS hl
  have hbA : ¬ (fun q : Nat => s.heap.size ≤ q) b := Nat.not_le.mpr hbl
  have hin1 : vp_in (nI i + 1) L := by rw [show (nI i + 1 : Int32) = nI (i + 1) from nI_add i 1]; exact vp_in_nI (by omega) (by omega)
  obtain ⟨suf, hRS, hC⟩ := hJ
  obtain ⟨r, A', hSC, hSM⟩ := J_write A (xs (nI i + 1).toNatClampNeg)
  obtain ⟨fs0, ho0⟩ := CIA_o hC
  refine lv_aload_n hx hb dL_144 rfl (lv_at hl 1 rfl) ?_
  refine lv_aload_n hx hb dL_145 rfl (lv_at hl 0 rfl) ?_
  refine lv_iload_n hx hb dL_146 rfl (lv_at hl 3 rfl) ?_
  refine lv_iconst (v := 1) hx hb dL_147 (by decide) ?_
  refine lv_iadd hx hb dL_148 ?_
  refine va_sld hx hb hX hbl hbA hS hin1 dL_149 ?_
  refine law_V X0 (As := [.int (xs (nI i + 1).toNatClampNeg)]) (rest := []) dL_150 vL_13 (by decide) (hSC suf h hC) ho0 rfl rfl (Nat.le_of_ble_eq_true rfl) hl.1 hk0 hn0 hP hD hS ?_
  intro rr h1 H1 locs1 hq hP1 hD1 hS1
  obtain ⟨rfl, hC1⟩ := hq
  obtain ⟨pre, hpl, hR1, hfin⟩ := JA_mid hRS hC1
  obtain ⟨fs1, ho1⟩ := RIA_o hpl hR1
  show W p l e room_1 s m #[Value.ref b] below meth c H1 locs1 k0 n0 (lw_Z below #[Value.ref b] s) (F0 m 153 ls [.int r])
  refine lv_aload_n hx hb dL_153 rfl (lv_at hl 2 rfl) ?_
  refine lv_aload_n hx hb dL_154 rfl (lv_at hl 0 rfl) ?_
  refine lv_iload_n hx hb dL_155 rfl (lv_at hl 3 rfl) ?_
  refine lv_iconst (v := 1) hx hb dL_156 (by decide) ?_
  refine lv_iadd hx hb dL_157 ?_
  refine va_sld hx hb hX hbl hbA hS1 hin1 dL_158 ?_
  refine law_V X0 (As := [.int (xs (nI i + 1).toNatClampNeg)]) (rest := [.int r]) dL_159 vL_17 (by decide) (hSM pre h1 hpl hR1) ho1 rfl rfl (Nat.le_of_ble_eq_true rfl) hl.1 hk0 hn0 hP1 hD1 hS1 ?_
  intro rr h2 H2 locs2 hq hP2 hD2 hS2
  obtain ⟨rfl, hR2⟩ := hq
  show W p l e room_1 s m #[Value.ref b] below meth c H2 locs2 k0 n0 (lw_Z below #[Value.ref b] s) (F0 m 162 ls [.int r, .int r])
  exact lv_icmp_eq (tgt := 676) hx hb dL_162 (by decide) (fun _ => K A' h2 H2 locs2 ls (hfin h2 hR2) hP2 hD2 hS2 hl) (fun c => absurd rfl c)
set_option maxHeartbeats 4000000 in
set_option maxRecDepth 100000 in
theorem law_wipe {p : Program} {l : Launch} {e : Env} {s : State} {m : MethodId} {below : List Frame} {meth : Method} {c : Code} {D : va_G} {cy ad : Nat → Nat} {b L : Nat} {xs : Nat → Int32} (X : LX p s m meth c D cy ad b L xs) {k0 n0 i : Nat} (hk0 : k0 ≤ 600000) (hn0 : n0 ≤ 7302250) (hL : L ≤ 2048) (hi : i + 4 ≤ L) (K : LGo p l e s m below meth c D cy ad b k0 n0 676 i) : LGo p l e s m below meth c D cy ad b k0 n0 167 i := by
  have X0 := X
  obtain ⟨hx, hb, hrt, hml, hown, hts, hK, hN, hX, hbl, hlocks⟩ := X
  intro A h H locs ls hJ hP hD hS hl
  have hbA : ¬ (fun q : Nat => s.heap.size ≤ q) b := Nat.not_le.mpr hbl
  obtain ⟨suf, hRS, hC⟩ := hJ
  obtain ⟨r, A', hSC, hSM⟩ := J_wipe A 
  obtain ⟨fs0, ho0⟩ := CIA_o hC
  refine lv_aload_n hx hb dL_167 rfl (lv_at hl 1 rfl) ?_
  refine law_V X0 (As := []) (rest := []) dL_168 vL_18 (by decide) (hSC suf h hC) ho0 rfl rfl (Nat.le_of_ble_eq_true rfl) hl.1 hk0 hn0 hP hD hS ?_
  intro rr h1 H1 locs1 hq hP1 hD1 hS1
  obtain ⟨rfl, hC1⟩ := hq
  obtain ⟨pre, hpl, hR1, hfin⟩ := JA_mid hRS hC1
  obtain ⟨fs1, ho1⟩ := RIA_o hpl hR1
  show W p l e room_1 s m #[Value.ref b] below meth c H1 locs1 k0 n0 (lw_Z below #[Value.ref b] s) (F0 m 171 ls [.int r])
  refine lv_aload_n hx hb dL_171 rfl (lv_at hl 2 rfl) ?_
  refine law_V X0 (As := []) (rest := [.int r]) dL_172 vL_22 (by decide) (hSM pre h1 hpl hR1) ho1 rfl rfl (Nat.le_of_ble_eq_true rfl) hl.1 hk0 hn0 hP1 hD1 hS1 ?_
  intro rr h2 H2 locs2 hq hP2 hD2 hS2
  obtain ⟨rfl, hR2⟩ := hq
  show W p l e room_1 s m #[Value.ref b] below meth c H2 locs2 k0 n0 (lw_Z below #[Value.ref b] s) (F0 m 175 ls [.int r, .int r])
  exact lv_icmp_eq (tgt := 676) hx hb dL_175 (by decide) (fun _ => K A' h2 H2 locs2 ls (hfin h2 hR2) hP2 hD2 hS2 hl) (fun c => absurd rfl c)
set_option maxHeartbeats 4000000 in
set_option maxRecDepth 100000 in
theorem law_fault {p : Program} {l : Launch} {e : Env} {s : State} {m : MethodId} {below : List Frame} {meth : Method} {c : Code} {D : va_G} {cy ad : Nat → Nat} {b L : Nat} {xs : Nat → Int32} (X : LX p s m meth c D cy ad b L xs) {k0 n0 i : Nat} (hk0 : k0 ≤ 600000) (hn0 : n0 ≤ 7302250) (hL : L ≤ 2048) (hi : i + 4 ≤ L) (K : LGo p l e s m below meth c D cy ad b k0 n0 676 i) : LGo p l e s m below meth c D cy ad b k0 n0 180 i := by
  have X0 := X
  obtain ⟨hx, hb, hrt, hml, hown, hts, hK, hN, hX, hbl, hlocks⟩ := X
  intro A h H locs ls hJ hP hD hS hl
  have hbA : ¬ (fun q : Nat => s.heap.size ≤ q) b := Nat.not_le.mpr hbl
  obtain ⟨suf, hRS, hC⟩ := hJ
  obtain ⟨r, A', hSC, hSM⟩ := J_fault A 
  obtain ⟨fs0, ho0⟩ := CIA_o hC
  refine lv_aload_n hx hb dL_180 rfl (lv_at hl 1 rfl) ?_
  refine law_V X0 (As := []) (rest := []) dL_181 vL_23 (by decide) (hSC suf h hC) ho0 rfl rfl (Nat.le_of_ble_eq_true rfl) hl.1 hk0 hn0 hP hD hS ?_
  intro rr h1 H1 locs1 hq hP1 hD1 hS1
  obtain ⟨rfl, hC1⟩ := hq
  obtain ⟨pre, hpl, hR1, hfin⟩ := JA_mid hRS hC1
  obtain ⟨fs1, ho1⟩ := RIA_o hpl hR1
  show W p l e room_1 s m #[Value.ref b] below meth c H1 locs1 k0 n0 (lw_Z below #[Value.ref b] s) (F0 m 184 ls [.int r])
  refine lv_aload_n hx hb dL_184 rfl (lv_at hl 2 rfl) ?_
  refine law_V X0 (As := []) (rest := [.int r]) dL_185 vL_26 (by decide) (hSM pre h1 hpl hR1) ho1 rfl rfl (Nat.le_of_ble_eq_true rfl) hl.1 hk0 hn0 hP1 hD1 hS1 ?_
  intro rr h2 H2 locs2 hq hP2 hD2 hS2
  obtain ⟨rfl, hR2⟩ := hq
  show W p l e room_1 s m #[Value.ref b] below meth c H2 locs2 k0 n0 (lw_Z below #[Value.ref b] s) (F0 m 188 ls [.int r, .int r])
  exact lv_icmp_eq (tgt := 676) hx hb dL_188 (by decide) (fun _ => K A' h2 H2 locs2 ls (hfin h2 hR2) hP2 hD2 hS2 hl) (fun c => absurd rfl c)
set_option maxHeartbeats 4000000 in
set_option maxRecDepth 100000 in
theorem law_lay {p : Program} {l : Launch} {e : Env} {s : State} {m : MethodId} {below : List Frame} {meth : Method} {c : Code} {D : va_G} {cy ad : Nat → Nat} {b L : Nat} {xs : Nat → Int32} (X : LX p s m meth c D cy ad b L xs) {k0 n0 i : Nat} (hk0 : k0 ≤ 600000) (hn0 : n0 ≤ 7302250) (hL : L ≤ 2048) (hi : i + 4 ≤ L) (K : LGo p l e s m below meth c D cy ad b k0 n0 676 i) : LGo p l e s m below meth c D cy ad b k0 n0 193 i := by
  have X0 := X
  obtain ⟨hx, hb, hrt, hml, hown, hts, hK, hN, hX, hbl, hlocks⟩ := X
  intro A h H locs ls hJ hP hD hS hl
  have hbA : ¬ (fun q : Nat => s.heap.size ≤ q) b := Nat.not_le.mpr hbl
  obtain ⟨suf, hRS, hC⟩ := hJ
  obtain ⟨r, A', hSC, hSM⟩ := J_lay A 
  obtain ⟨fs0, ho0⟩ := CIA_o hC
  refine lv_aload_n hx hb dL_193 rfl (lv_at hl 1 rfl) ?_
  refine law_V X0 (As := []) (rest := []) dL_194 vL_27 (by decide) (hSC suf h hC) ho0 rfl rfl (Nat.le_of_ble_eq_true rfl) hl.1 hk0 hn0 hP hD hS ?_
  intro rr h1 H1 locs1 hq hP1 hD1 hS1
  obtain ⟨rfl, hC1⟩ := hq
  obtain ⟨pre, hpl, hR1, hfin⟩ := JA_mid hRS hC1
  obtain ⟨fs1, ho1⟩ := RIA_o hpl hR1
  show W p l e room_1 s m #[Value.ref b] below meth c H1 locs1 k0 n0 (lw_Z below #[Value.ref b] s) (F0 m 197 ls [.int r])
  refine lv_aload_n hx hb dL_197 rfl (lv_at hl 2 rfl) ?_
  refine law_V X0 (As := []) (rest := [.int r]) dL_198 vL_30 (by decide) (hSM pre h1 hpl hR1) ho1 rfl rfl (Nat.le_of_ble_eq_true rfl) hl.1 hk0 hn0 hP1 hD1 hS1 ?_
  intro rr h2 H2 locs2 hq hP2 hD2 hS2
  obtain ⟨rfl, hR2⟩ := hq
  show W p l e room_1 s m #[Value.ref b] below meth c H2 locs2 k0 n0 (lw_Z below #[Value.ref b] s) (F0 m 201 ls [.int r, .int r])
  exact lv_icmp_eq (tgt := 676) hx hb dL_201 (by decide) (fun _ => K A' h2 H2 locs2 ls (hfin h2 hR2) hP2 hD2 hS2 hl) (fun c => absurd rfl c)
set_option maxHeartbeats 4000000 in
set_option maxRecDepth 100000 in
theorem law_act {p : Program} {l : Launch} {e : Env} {s : State} {m : MethodId} {below : List Frame} {meth : Method} {c : Code} {D : va_G} {cy ad : Nat → Nat} {b L : Nat} {xs : Nat → Int32} (X : LX p s m meth c D cy ad b L xs) {k0 n0 i : Nat} (hk0 : k0 ≤ 600000) (hn0 : n0 ≤ 7302250) (hL : L ≤ 2048) (hi : i + 4 ≤ L) (K : LGo p l e s m below meth c D cy ad b k0 n0 676 i) : LGo p l e s m below meth c D cy ad b k0 n0 206 i := by
  have X0 := X
  obtain ⟨hx, hb, hrt, hml, hown, hts, hK, hN, hX, hbl, hlocks⟩ := X
  intro A h H locs ls hJ hP hD hS hl
  have hbA : ¬ (fun q : Nat => s.heap.size ≤ q) b := Nat.not_le.mpr hbl
  have hin1 : vp_in (nI i + 1) L := by rw [show (nI i + 1 : Int32) = nI (i + 1) from nI_add i 1]; exact vp_in_nI (by omega) (by omega)
  have hin2 : vp_in (nI i + 2) L := by rw [show (nI i + 2 : Int32) = nI (i + 2) from nI_add i 2]; exact vp_in_nI (by omega) (by omega)
  have hin3 : vp_in (nI i + 3) L := by rw [show (nI i + 3 : Int32) = nI (i + 3) from nI_add i 3]; exact vp_in_nI (by omega) (by omega)
  obtain ⟨suf, hRS, hC⟩ := hJ
  obtain ⟨r, A', hSC, hSM⟩ := J_act A (xs (nI i + 1).toNatClampNeg) (xs (nI i + 2).toNatClampNeg) (xs (nI i + 3).toNatClampNeg)
  obtain ⟨fs0, ho0⟩ := CIA_o hC
  refine lv_aload_n hx hb dL_206 rfl (lv_at hl 1 rfl) ?_
  refine lv_aload_n hx hb dL_207 rfl (lv_at hl 0 rfl) ?_
  refine lv_iload_n hx hb dL_208 rfl (lv_at hl 3 rfl) ?_
  refine lv_iconst (v := 1) hx hb dL_209 (by decide) ?_
  refine lv_iadd hx hb dL_210 ?_
  refine va_sld hx hb hX hbl hbA hS hin1 dL_211 ?_
  refine lv_aload_n hx hb dL_212 rfl (lv_at hl 0 rfl) ?_
  refine lv_iload_n hx hb dL_213 rfl (lv_at hl 3 rfl) ?_
  refine lv_iconst (v := 2) hx hb dL_214 (by decide) ?_
  refine lv_iadd hx hb dL_215 ?_
  refine va_sld hx hb hX hbl hbA hS hin2 dL_216 ?_
  refine lv_aload_n hx hb dL_217 rfl (lv_at hl 0 rfl) ?_
  refine lv_iload_n hx hb dL_218 rfl (lv_at hl 3 rfl) ?_
  refine lv_iconst (v := 3) hx hb dL_219 (by decide) ?_
  refine lv_iadd hx hb dL_220 ?_
  refine va_sld hx hb hX hbl hbA hS hin3 dL_221 ?_
  refine law_V X0 (As := [.int (xs (nI i + 1).toNatClampNeg), .int (xs (nI i + 2).toNatClampNeg), .int (xs (nI i + 3).toNatClampNeg)]) (rest := []) dL_222 vL_31 (by decide) (hSC suf h hC) ho0 rfl rfl (Nat.le_of_ble_eq_true rfl) hl.1 hk0 hn0 hP hD hS ?_
  intro rr h1 H1 locs1 hq hP1 hD1 hS1
  obtain ⟨rfl, hC1⟩ := hq
  obtain ⟨pre, hpl, hR1, hfin⟩ := JA_mid hRS hC1
  obtain ⟨fs1, ho1⟩ := RIA_o hpl hR1
  show W p l e room_1 s m #[Value.ref b] below meth c H1 locs1 k0 n0 (lw_Z below #[Value.ref b] s) (F0 m 225 ls [.int r])
  refine lv_aload_n hx hb dL_225 rfl (lv_at hl 2 rfl) ?_
  refine lv_aload_n hx hb dL_226 rfl (lv_at hl 0 rfl) ?_
  refine lv_iload_n hx hb dL_227 rfl (lv_at hl 3 rfl) ?_
  refine lv_iconst (v := 1) hx hb dL_228 (by decide) ?_
  refine lv_iadd hx hb dL_229 ?_
  refine va_sld hx hb hX hbl hbA hS1 hin1 dL_230 ?_
  refine lv_aload_n hx hb dL_231 rfl (lv_at hl 0 rfl) ?_
  refine lv_iload_n hx hb dL_232 rfl (lv_at hl 3 rfl) ?_
  refine lv_iconst (v := 2) hx hb dL_233 (by decide) ?_
  refine lv_iadd hx hb dL_234 ?_
  refine va_sld hx hb hX hbl hbA hS1 hin2 dL_235 ?_
  refine lv_aload_n hx hb dL_236 rfl (lv_at hl 0 rfl) ?_
  refine lv_iload_n hx hb dL_237 rfl (lv_at hl 3 rfl) ?_
  refine lv_iconst (v := 3) hx hb dL_238 (by decide) ?_
  refine lv_iadd hx hb dL_239 ?_
  refine va_sld hx hb hX hbl hbA hS1 hin3 dL_240 ?_
  refine law_V X0 (As := [.int (xs (nI i + 1).toNatClampNeg), .int (xs (nI i + 2).toNatClampNeg), .int (xs (nI i + 3).toNatClampNeg)]) (rest := [.int r]) dL_241 vL_35 (by decide) (hSM pre h1 hpl hR1) ho1 rfl rfl (Nat.le_of_ble_eq_true rfl) hl.1 hk0 hn0 hP1 hD1 hS1 ?_
  intro rr h2 H2 locs2 hq hP2 hD2 hS2
  obtain ⟨rfl, hR2⟩ := hq
  show W p l e room_1 s m #[Value.ref b] below meth c H2 locs2 k0 n0 (lw_Z below #[Value.ref b] s) (F0 m 244 ls [.int r, .int r])
  exact lv_icmp_eq (tgt := 676) hx hb dL_244 (by decide) (fun _ => K A' h2 H2 locs2 ls (hfin h2 hR2) hP2 hD2 hS2 hl) (fun c => absurd rfl c)
set_option maxHeartbeats 4000000 in
set_option maxRecDepth 100000 in
theorem law_drop {p : Program} {l : Launch} {e : Env} {s : State} {m : MethodId} {below : List Frame} {meth : Method} {c : Code} {D : va_G} {cy ad : Nat → Nat} {b L : Nat} {xs : Nat → Int32} (X : LX p s m meth c D cy ad b L xs) {k0 n0 i : Nat} (hk0 : k0 ≤ 600000) (hn0 : n0 ≤ 7302250) (hL : L ≤ 2048) (hi : i + 4 ≤ L) (K : LGo p l e s m below meth c D cy ad b k0 n0 676 i) : LGo p l e s m below meth c D cy ad b k0 n0 249 i := by
  have X0 := X
  obtain ⟨hx, hb, hrt, hml, hown, hts, hK, hN, hX, hbl, hlocks⟩ := X
  intro A h H locs ls hJ hP hD hS hl
  have hbA : ¬ (fun q : Nat => s.heap.size ≤ q) b := Nat.not_le.mpr hbl
  obtain ⟨suf, hRS, hC⟩ := hJ
  obtain ⟨r, A', hSC, hSM⟩ := J_drop A 
  obtain ⟨fs0, ho0⟩ := CIA_o hC
  refine lv_aload_n hx hb dL_249 rfl (lv_at hl 1 rfl) ?_
  refine law_V X0 (As := []) (rest := []) dL_250 vL_36 (by decide) (hSC suf h hC) ho0 rfl rfl (Nat.le_of_ble_eq_true rfl) hl.1 hk0 hn0 hP hD hS ?_
  intro rr h1 H1 locs1 hq hP1 hD1 hS1
  obtain ⟨rfl, hC1⟩ := hq
  obtain ⟨pre, hpl, hR1, hfin⟩ := JA_mid hRS hC1
  obtain ⟨fs1, ho1⟩ := RIA_o hpl hR1
  show W p l e room_1 s m #[Value.ref b] below meth c H1 locs1 k0 n0 (lw_Z below #[Value.ref b] s) (F0 m 253 ls [.int r])
  refine lv_aload_n hx hb dL_253 rfl (lv_at hl 2 rfl) ?_
  refine law_V X0 (As := []) (rest := [.int r]) dL_254 vL_39 (by decide) (hSM pre h1 hpl hR1) ho1 rfl rfl (Nat.le_of_ble_eq_true rfl) hl.1 hk0 hn0 hP1 hD1 hS1 ?_
  intro rr h2 H2 locs2 hq hP2 hD2 hS2
  obtain ⟨rfl, hR2⟩ := hq
  show W p l e room_1 s m #[Value.ref b] below meth c H2 locs2 k0 n0 (lw_Z below #[Value.ref b] s) (F0 m 257 ls [.int r, .int r])
  exact lv_icmp_eq (tgt := 676) hx hb dL_257 (by decide) (fun _ => K A' h2 H2 locs2 ls (hfin h2 hR2) hP2 hD2 hS2 hl) (fun c => absurd rfl c)
set_option maxHeartbeats 4000000 in
set_option maxRecDepth 100000 in
theorem law_exchange {p : Program} {l : Launch} {e : Env} {s : State} {m : MethodId} {below : List Frame} {meth : Method} {c : Code} {D : va_G} {cy ad : Nat → Nat} {b L : Nat} {xs : Nat → Int32} (X : LX p s m meth c D cy ad b L xs) {k0 n0 i : Nat} (hk0 : k0 ≤ 600000) (hn0 : n0 ≤ 7302250) (hL : L ≤ 2048) (hi : i + 4 ≤ L) (K : LGo p l e s m below meth c D cy ad b k0 n0 676 i) : LGo p l e s m below meth c D cy ad b k0 n0 262 i := by
  have X0 := X
  obtain ⟨hx, hb, hrt, hml, hown, hts, hK, hN, hX, hbl, hlocks⟩ := X
  intro A h H locs ls hJ hP hD hS hl
  have hbA : ¬ (fun q : Nat => s.heap.size ≤ q) b := Nat.not_le.mpr hbl
  have hin1 : vp_in (nI i + 1) L := by rw [show (nI i + 1 : Int32) = nI (i + 1) from nI_add i 1]; exact vp_in_nI (by omega) (by omega)
  obtain ⟨suf, hRS, hC⟩ := hJ
  obtain ⟨r, A', hSC, hSM⟩ := J_exchange A (xs (nI i + 1).toNatClampNeg)
  obtain ⟨fs0, ho0⟩ := CIA_o hC
  refine lv_aload_n hx hb dL_262 rfl (lv_at hl 1 rfl) ?_
  refine lv_aload_n hx hb dL_263 rfl (lv_at hl 0 rfl) ?_
  refine lv_iload_n hx hb dL_264 rfl (lv_at hl 3 rfl) ?_
  refine lv_iconst (v := 1) hx hb dL_265 (by decide) ?_
  refine lv_iadd hx hb dL_266 ?_
  refine va_sld hx hb hX hbl hbA hS hin1 dL_267 ?_
  refine law_V X0 (As := [.int (xs (nI i + 1).toNatClampNeg)]) (rest := []) dL_268 vL_40 (by decide) (hSC suf h hC) ho0 rfl rfl (Nat.le_of_ble_eq_true rfl) hl.1 hk0 hn0 hP hD hS ?_
  intro rr h1 H1 locs1 hq hP1 hD1 hS1
  obtain ⟨rfl, hC1⟩ := hq
  obtain ⟨pre, hpl, hR1, hfin⟩ := JA_mid hRS hC1
  obtain ⟨fs1, ho1⟩ := RIA_o hpl hR1
  show W p l e room_1 s m #[Value.ref b] below meth c H1 locs1 k0 n0 (lw_Z below #[Value.ref b] s) (F0 m 271 ls [.int r])
  refine lv_aload_n hx hb dL_271 rfl (lv_at hl 2 rfl) ?_
  refine lv_aload_n hx hb dL_272 rfl (lv_at hl 0 rfl) ?_
  refine lv_iload_n hx hb dL_273 rfl (lv_at hl 3 rfl) ?_
  refine lv_iconst (v := 1) hx hb dL_274 (by decide) ?_
  refine lv_iadd hx hb dL_275 ?_
  refine va_sld hx hb hX hbl hbA hS1 hin1 dL_276 ?_
  refine law_V X0 (As := [.int (xs (nI i + 1).toNatClampNeg)]) (rest := [.int r]) dL_277 vL_43 (by decide) (hSM pre h1 hpl hR1) ho1 rfl rfl (Nat.le_of_ble_eq_true rfl) hl.1 hk0 hn0 hP1 hD1 hS1 ?_
  intro rr h2 H2 locs2 hq hP2 hD2 hS2
  obtain ⟨rfl, hR2⟩ := hq
  show W p l e room_1 s m #[Value.ref b] below meth c H2 locs2 k0 n0 (lw_Z below #[Value.ref b] s) (F0 m 280 ls [.int r, .int r])
  exact lv_icmp_eq (tgt := 676) hx hb dL_280 (by decide) (fun _ => K A' h2 H2 locs2 ls (hfin h2 hR2) hP2 hD2 hS2 hl) (fun c => absurd rfl c)
set_option maxHeartbeats 4000000 in
set_option maxRecDepth 100000 in
theorem law_backwards {p : Program} {l : Launch} {e : Env} {s : State} {m : MethodId} {below : List Frame} {meth : Method} {c : Code} {D : va_G} {cy ad : Nat → Nat} {b L : Nat} {xs : Nat → Int32} (X : LX p s m meth c D cy ad b L xs) {k0 n0 i : Nat} (hk0 : k0 ≤ 600000) (hn0 : n0 ≤ 7302250) (hL : L ≤ 2048) (hi : i + 4 ≤ L) (K : LGo p l e s m below meth c D cy ad b k0 n0 676 i) : LGo p l e s m below meth c D cy ad b k0 n0 285 i := by
  have X0 := X
  obtain ⟨hx, hb, hrt, hml, hown, hts, hK, hN, hX, hbl, hlocks⟩ := X
  intro A h H locs ls hJ hP hD hS hl
  have hbA : ¬ (fun q : Nat => s.heap.size ≤ q) b := Nat.not_le.mpr hbl
  obtain ⟨suf, hRS, hC⟩ := hJ
  obtain ⟨r, A', hSC, hSM⟩ := J_backwards A 
  obtain ⟨fs0, ho0⟩ := CIA_o hC
  refine lv_aload_n hx hb dL_285 rfl (lv_at hl 1 rfl) ?_
  refine law_V X0 (As := []) (rest := []) dL_286 vL_44 (by decide) (hSC suf h hC) ho0 rfl rfl (Nat.le_of_ble_eq_true rfl) hl.1 hk0 hn0 hP hD hS ?_
  intro rr h1 H1 locs1 hq hP1 hD1 hS1
  obtain ⟨rfl, hC1⟩ := hq
  obtain ⟨pre, hpl, hR1, hfin⟩ := JA_mid hRS hC1
  obtain ⟨fs1, ho1⟩ := RIA_o hpl hR1
  show W p l e room_1 s m #[Value.ref b] below meth c H1 locs1 k0 n0 (lw_Z below #[Value.ref b] s) (F0 m 289 ls [.int r])
  refine lv_aload_n hx hb dL_289 rfl (lv_at hl 2 rfl) ?_
  refine law_V X0 (As := []) (rest := [.int r]) dL_290 vL_47 (by decide) (hSM pre h1 hpl hR1) ho1 rfl rfl (Nat.le_of_ble_eq_true rfl) hl.1 hk0 hn0 hP1 hD1 hS1 ?_
  intro rr h2 H2 locs2 hq hP2 hD2 hS2
  obtain ⟨rfl, hR2⟩ := hq
  show W p l e room_1 s m #[Value.ref b] below meth c H2 locs2 k0 n0 (lw_Z below #[Value.ref b] s) (F0 m 293 ls [.int r, .int r])
  exact lv_icmp_eq (tgt := 676) hx hb dL_293 (by decide) (fun _ => K A' h2 H2 locs2 ls (hfin h2 hR2) hP2 hD2 hS2 hl) (fun c => absurd rfl c)
set_option maxHeartbeats 4000000 in
set_option maxRecDepth 100000 in
theorem law_clear {p : Program} {l : Launch} {e : Env} {s : State} {m : MethodId} {below : List Frame} {meth : Method} {c : Code} {D : va_G} {cy ad : Nat → Nat} {b L : Nat} {xs : Nat → Int32} (X : LX p s m meth c D cy ad b L xs) {k0 n0 i : Nat} (hk0 : k0 ≤ 600000) (hn0 : n0 ≤ 7302250) (hL : L ≤ 2048) (hi : i + 4 ≤ L) (K : LGo p l e s m below meth c D cy ad b k0 n0 676 i) : LGo p l e s m below meth c D cy ad b k0 n0 298 i := by
  have X0 := X
  obtain ⟨hx, hb, hrt, hml, hown, hts, hK, hN, hX, hbl, hlocks⟩ := X
  intro A h H locs ls hJ hP hD hS hl
  have hbA : ¬ (fun q : Nat => s.heap.size ≤ q) b := Nat.not_le.mpr hbl
  obtain ⟨suf, hRS, hC⟩ := hJ
  obtain ⟨r, A', hSC, hSM⟩ := J_clear A 
  obtain ⟨fs0, ho0⟩ := CIA_o hC
  refine lv_aload_n hx hb dL_298 rfl (lv_at hl 1 rfl) ?_
  refine law_V X0 (As := []) (rest := []) dL_299 vL_48 (by decide) (hSC suf h hC) ho0 rfl rfl (Nat.le_of_ble_eq_true rfl) hl.1 hk0 hn0 hP hD hS ?_
  intro rr h1 H1 locs1 hq hP1 hD1 hS1
  obtain ⟨rfl, hC1⟩ := hq
  obtain ⟨pre, hpl, hR1, hfin⟩ := JA_mid hRS hC1
  obtain ⟨fs1, ho1⟩ := RIA_o hpl hR1
  show W p l e room_1 s m #[Value.ref b] below meth c H1 locs1 k0 n0 (lw_Z below #[Value.ref b] s) (F0 m 302 ls [.int r])
  refine lv_aload_n hx hb dL_302 rfl (lv_at hl 2 rfl) ?_
  refine law_V X0 (As := []) (rest := [.int r]) dL_303 vL_51 (by decide) (hSM pre h1 hpl hR1) ho1 rfl rfl (Nat.le_of_ble_eq_true rfl) hl.1 hk0 hn0 hP1 hD1 hS1 ?_
  intro rr h2 H2 locs2 hq hP2 hD2 hS2
  obtain ⟨rfl, hR2⟩ := hq
  show W p l e room_1 s m #[Value.ref b] below meth c H2 locs2 k0 n0 (lw_Z below #[Value.ref b] s) (F0 m 306 ls [.int r, .int r])
  exact lv_icmp_eq (tgt := 676) hx hb dL_306 (by decide) (fun _ => K A' h2 H2 locs2 ls (hfin h2 hR2) hP2 hD2 hS2 hl) (fun c => absurd rfl c)
set_option maxHeartbeats 4000000 in
set_option maxRecDepth 100000 in
theorem law_undo {p : Program} {l : Launch} {e : Env} {s : State} {m : MethodId} {below : List Frame} {meth : Method} {c : Code} {D : va_G} {cy ad : Nat → Nat} {b L : Nat} {xs : Nat → Int32} (X : LX p s m meth c D cy ad b L xs) {k0 n0 i : Nat} (hk0 : k0 ≤ 600000) (hn0 : n0 ≤ 7302250) (hL : L ≤ 2048) (hi : i + 4 ≤ L) (K : LGo p l e s m below meth c D cy ad b k0 n0 676 i) : LGo p l e s m below meth c D cy ad b k0 n0 311 i := by
  have X0 := X
  obtain ⟨hx, hb, hrt, hml, hown, hts, hK, hN, hX, hbl, hlocks⟩ := X
  intro A h H locs ls hJ hP hD hS hl
  have hbA : ¬ (fun q : Nat => s.heap.size ≤ q) b := Nat.not_le.mpr hbl
  obtain ⟨suf, hRS, hC⟩ := hJ
  obtain ⟨r, A', hSC, hSM⟩ := J_undo A 
  obtain ⟨fs0, ho0⟩ := CIA_o hC
  refine lv_aload_n hx hb dL_311 rfl (lv_at hl 1 rfl) ?_
  refine law_V X0 (As := []) (rest := []) dL_312 vL_52 (by decide) (hSC suf h hC) ho0 rfl rfl (Nat.le_of_ble_eq_true rfl) hl.1 hk0 hn0 hP hD hS ?_
  intro rr h1 H1 locs1 hq hP1 hD1 hS1
  obtain ⟨rfl, hC1⟩ := hq
  obtain ⟨pre, hpl, hR1, hfin⟩ := JA_mid hRS hC1
  obtain ⟨fs1, ho1⟩ := RIA_o hpl hR1
  show W p l e room_1 s m #[Value.ref b] below meth c H1 locs1 k0 n0 (lw_Z below #[Value.ref b] s) (F0 m 315 ls [.int r])
  refine lv_aload_n hx hb dL_315 rfl (lv_at hl 2 rfl) ?_
  refine law_V X0 (As := []) (rest := [.int r]) dL_316 vL_55 (by decide) (hSM pre h1 hpl hR1) ho1 rfl rfl (Nat.le_of_ble_eq_true rfl) hl.1 hk0 hn0 hP1 hD1 hS1 ?_
  intro rr h2 H2 locs2 hq hP2 hD2 hS2
  obtain ⟨rfl, hR2⟩ := hq
  show W p l e room_1 s m #[Value.ref b] below meth c H2 locs2 k0 n0 (lw_Z below #[Value.ref b] s) (F0 m 319 ls [.int r, .int r])
  exact lv_icmp_eq (tgt := 676) hx hb dL_319 (by decide) (fun _ => K A' h2 H2 locs2 ls (hfin h2 hR2) hP2 hD2 hS2 hl) (fun c => absurd rfl c)
set_option maxHeartbeats 4000000 in
set_option maxRecDepth 100000 in
theorem law_spelt {p : Program} {l : Launch} {e : Env} {s : State} {m : MethodId} {below : List Frame} {meth : Method} {c : Code} {D : va_G} {cy ad : Nat → Nat} {b L : Nat} {xs : Nat → Int32} (X : LX p s m meth c D cy ad b L xs) {k0 n0 i : Nat} (hk0 : k0 ≤ 600000) (hn0 : n0 ≤ 7302250) (hL : L ≤ 2048) (hi : i + 4 ≤ L) (K : LGo p l e s m below meth c D cy ad b k0 n0 676 i) : LGo p l e s m below meth c D cy ad b k0 n0 324 i := by
  have X0 := X
  obtain ⟨hx, hb, hrt, hml, hown, hts, hK, hN, hX, hbl, hlocks⟩ := X
  intro A h H locs ls hJ hP hD hS hl
  have hbA : ¬ (fun q : Nat => s.heap.size ≤ q) b := Nat.not_le.mpr hbl
  have hin1 : vp_in (nI i + 1) L := by rw [show (nI i + 1 : Int32) = nI (i + 1) from nI_add i 1]; exact vp_in_nI (by omega) (by omega)
  obtain ⟨suf, hRS, hC⟩ := hJ
  obtain ⟨r, A', hSC, hSM⟩ := J_spelt A (xs (nI i + 1).toNatClampNeg)
  obtain ⟨fs0, ho0⟩ := CIA_o hC
  refine lv_aload_n hx hb dL_324 rfl (lv_at hl 1 rfl) ?_
  refine lv_aload_n hx hb dL_325 rfl (lv_at hl 0 rfl) ?_
  refine lv_iload_n hx hb dL_326 rfl (lv_at hl 3 rfl) ?_
  refine lv_iconst (v := 1) hx hb dL_327 (by decide) ?_
  refine lv_iadd hx hb dL_328 ?_
  refine va_sld hx hb hX hbl hbA hS hin1 dL_329 ?_
  refine law_V X0 (As := [.int (xs (nI i + 1).toNatClampNeg)]) (rest := []) dL_330 vL_56 (by decide) (hSC suf h hC) ho0 rfl rfl (Nat.le_of_ble_eq_true rfl) hl.1 hk0 hn0 hP hD hS ?_
  intro rr h1 H1 locs1 hq hP1 hD1 hS1
  obtain ⟨rfl, hC1⟩ := hq
  obtain ⟨pre, hpl, hR1, hfin⟩ := JA_mid hRS hC1
  obtain ⟨fs1, ho1⟩ := RIA_o hpl hR1
  show W p l e room_1 s m #[Value.ref b] below meth c H1 locs1 k0 n0 (lw_Z below #[Value.ref b] s) (F0 m 333 ls [.int r])
  refine lv_aload_n hx hb dL_333 rfl (lv_at hl 2 rfl) ?_
  refine lv_aload_n hx hb dL_334 rfl (lv_at hl 0 rfl) ?_
  refine lv_iload_n hx hb dL_335 rfl (lv_at hl 3 rfl) ?_
  refine lv_iconst (v := 1) hx hb dL_336 (by decide) ?_
  refine lv_iadd hx hb dL_337 ?_
  refine va_sld hx hb hX hbl hbA hS1 hin1 dL_338 ?_
  refine law_V X0 (As := [.int (xs (nI i + 1).toNatClampNeg)]) (rest := [.int r]) dL_339 vL_59 (by decide) (hSM pre h1 hpl hR1) ho1 rfl rfl (Nat.le_of_ble_eq_true rfl) hl.1 hk0 hn0 hP1 hD1 hS1 ?_
  intro rr h2 H2 locs2 hq hP2 hD2 hS2
  obtain ⟨rfl, hR2⟩ := hq
  show W p l e room_1 s m #[Value.ref b] below meth c H2 locs2 k0 n0 (lw_Z below #[Value.ref b] s) (F0 m 342 ls [.int r, .int r])
  exact lv_icmp_eq (tgt := 676) hx hb dL_342 (by decide) (fun _ => K A' h2 H2 locs2 ls (hfin h2 hR2) hP2 hD2 hS2 hl) (fun c => absurd rfl c)
set_option maxHeartbeats 4000000 in
set_option maxRecDepth 100000 in
theorem law_told {p : Program} {l : Launch} {e : Env} {s : State} {m : MethodId} {below : List Frame} {meth : Method} {c : Code} {D : va_G} {cy ad : Nat → Nat} {b L : Nat} {xs : Nat → Int32} (X : LX p s m meth c D cy ad b L xs) {k0 n0 i : Nat} (hk0 : k0 ≤ 600000) (hn0 : n0 ≤ 7302250) (hL : L ≤ 2048) (hi : i + 4 ≤ L) (K : LGo p l e s m below meth c D cy ad b k0 n0 676 i) : LGo p l e s m below meth c D cy ad b k0 n0 347 i := by
  have X0 := X
  obtain ⟨hx, hb, hrt, hml, hown, hts, hK, hN, hX, hbl, hlocks⟩ := X
  intro A h H locs ls hJ hP hD hS hl
  have hbA : ¬ (fun q : Nat => s.heap.size ≤ q) b := Nat.not_le.mpr hbl
  have hin1 : vp_in (nI i + 1) L := by rw [show (nI i + 1 : Int32) = nI (i + 1) from nI_add i 1]; exact vp_in_nI (by omega) (by omega)
  have hin2 : vp_in (nI i + 2) L := by rw [show (nI i + 2 : Int32) = nI (i + 2) from nI_add i 2]; exact vp_in_nI (by omega) (by omega)
  obtain ⟨suf, hRS, hC⟩ := hJ
  obtain ⟨r, A', hSC, hSM⟩ := J_told A (xs (nI i + 1).toNatClampNeg) (xs (nI i + 2).toNatClampNeg)
  obtain ⟨fs0, ho0⟩ := CIA_o hC
  refine lv_aload_n hx hb dL_347 rfl (lv_at hl 1 rfl) ?_
  refine lv_aload_n hx hb dL_348 rfl (lv_at hl 0 rfl) ?_
  refine lv_iload_n hx hb dL_349 rfl (lv_at hl 3 rfl) ?_
  refine lv_iconst (v := 1) hx hb dL_350 (by decide) ?_
  refine lv_iadd hx hb dL_351 ?_
  refine va_sld hx hb hX hbl hbA hS hin1 dL_352 ?_
  refine lv_aload_n hx hb dL_353 rfl (lv_at hl 0 rfl) ?_
  refine lv_iload_n hx hb dL_354 rfl (lv_at hl 3 rfl) ?_
  refine lv_iconst (v := 2) hx hb dL_355 (by decide) ?_
  refine lv_iadd hx hb dL_356 ?_
  refine va_sld hx hb hX hbl hbA hS hin2 dL_357 ?_
  refine law_V X0 (As := [.int (xs (nI i + 1).toNatClampNeg), .int (xs (nI i + 2).toNatClampNeg)]) (rest := []) dL_358 vL_60 (by decide) (hSC suf h hC) ho0 rfl rfl (Nat.le_of_ble_eq_true rfl) hl.1 hk0 hn0 hP hD hS ?_
  intro rr h1 H1 locs1 hq hP1 hD1 hS1
  obtain ⟨rfl, hC1⟩ := hq
  obtain ⟨pre, hpl, hR1, hfin⟩ := JA_mid hRS hC1
  obtain ⟨fs1, ho1⟩ := RIA_o hpl hR1
  show W p l e room_1 s m #[Value.ref b] below meth c H1 locs1 k0 n0 (lw_Z below #[Value.ref b] s) (F0 m 361 ls [.int r])
  refine lv_aload_n hx hb dL_361 rfl (lv_at hl 2 rfl) ?_
  refine lv_aload_n hx hb dL_362 rfl (lv_at hl 0 rfl) ?_
  refine lv_iload_n hx hb dL_363 rfl (lv_at hl 3 rfl) ?_
  refine lv_iconst (v := 1) hx hb dL_364 (by decide) ?_
  refine lv_iadd hx hb dL_365 ?_
  refine va_sld hx hb hX hbl hbA hS1 hin1 dL_366 ?_
  refine lv_aload_n hx hb dL_367 rfl (lv_at hl 0 rfl) ?_
  refine lv_iload_n hx hb dL_368 rfl (lv_at hl 3 rfl) ?_
  refine lv_iconst (v := 2) hx hb dL_369 (by decide) ?_
  refine lv_iadd hx hb dL_370 ?_
  refine va_sld hx hb hX hbl hbA hS1 hin2 dL_371 ?_
  refine law_V X0 (As := [.int (xs (nI i + 1).toNatClampNeg), .int (xs (nI i + 2).toNatClampNeg)]) (rest := [.int r]) dL_372 vL_64 (by decide) (hSM pre h1 hpl hR1) ho1 rfl rfl (Nat.le_of_ble_eq_true rfl) hl.1 hk0 hn0 hP1 hD1 hS1 ?_
  intro rr h2 H2 locs2 hq hP2 hD2 hS2
  obtain ⟨rfl, hR2⟩ := hq
  show W p l e room_1 s m #[Value.ref b] below meth c H2 locs2 k0 n0 (lw_Z below #[Value.ref b] s) (F0 m 375 ls [.int r, .int r])
  exact lv_icmp_eq (tgt := 676) hx hb dL_375 (by decide) (fun _ => K A' h2 H2 locs2 ls (hfin h2 hR2) hP2 hD2 hS2 hl) (fun c => absurd rfl c)
set_option maxHeartbeats 4000000 in
set_option maxRecDepth 100000 in
theorem law_graph {p : Program} {l : Launch} {e : Env} {s : State} {m : MethodId} {below : List Frame} {meth : Method} {c : Code} {D : va_G} {cy ad : Nat → Nat} {b L : Nat} {xs : Nat → Int32} (X : LX p s m meth c D cy ad b L xs) {k0 n0 i : Nat} (hk0 : k0 ≤ 600000) (hn0 : n0 ≤ 7302250) (hL : L ≤ 2048) (hi : i + 4 ≤ L) (K : LGo p l e s m below meth c D cy ad b k0 n0 676 i) : LGo p l e s m below meth c D cy ad b k0 n0 380 i := by
  have X0 := X
  obtain ⟨hx, hb, hrt, hml, hown, hts, hK, hN, hX, hbl, hlocks⟩ := X
  intro A h H locs ls hJ hP hD hS hl
  have hbA : ¬ (fun q : Nat => s.heap.size ≤ q) b := Nat.not_le.mpr hbl
  have hin1 : vp_in (nI i + 1) L := by rw [show (nI i + 1 : Int32) = nI (i + 1) from nI_add i 1]; exact vp_in_nI (by omega) (by omega)
  have hin2 : vp_in (nI i + 2) L := by rw [show (nI i + 2 : Int32) = nI (i + 2) from nI_add i 2]; exact vp_in_nI (by omega) (by omega)
  obtain ⟨suf, hRS, hC⟩ := hJ
  obtain ⟨r, A', hSC, hSM⟩ := J_graph A (xs (nI i + 1).toNatClampNeg) (xs (nI i + 2).toNatClampNeg)
  obtain ⟨fs0, ho0⟩ := CIA_o hC
  refine lv_aload_n hx hb dL_380 rfl (lv_at hl 1 rfl) ?_
  refine lv_aload_n hx hb dL_381 rfl (lv_at hl 0 rfl) ?_
  refine lv_iload_n hx hb dL_382 rfl (lv_at hl 3 rfl) ?_
  refine lv_iconst (v := 1) hx hb dL_383 (by decide) ?_
  refine lv_iadd hx hb dL_384 ?_
  refine va_sld hx hb hX hbl hbA hS hin1 dL_385 ?_
  refine lv_aload_n hx hb dL_386 rfl (lv_at hl 0 rfl) ?_
  refine lv_iload_n hx hb dL_387 rfl (lv_at hl 3 rfl) ?_
  refine lv_iconst (v := 2) hx hb dL_388 (by decide) ?_
  refine lv_iadd hx hb dL_389 ?_
  refine va_sld hx hb hX hbl hbA hS hin2 dL_390 ?_
  refine law_V X0 (As := [.int (xs (nI i + 1).toNatClampNeg), .int (xs (nI i + 2).toNatClampNeg)]) (rest := []) dL_391 vL_65 (by decide) (hSC suf h hC) ho0 rfl rfl (Nat.le_of_ble_eq_true rfl) hl.1 hk0 hn0 hP hD hS ?_
  intro rr h1 H1 locs1 hq hP1 hD1 hS1
  obtain ⟨rfl, hC1⟩ := hq
  obtain ⟨pre, hpl, hR1, hfin⟩ := JA_mid hRS hC1
  obtain ⟨fs1, ho1⟩ := RIA_o hpl hR1
  show W p l e room_1 s m #[Value.ref b] below meth c H1 locs1 k0 n0 (lw_Z below #[Value.ref b] s) (F0 m 394 ls [.int r])
  refine lv_aload_n hx hb dL_394 rfl (lv_at hl 2 rfl) ?_
  refine lv_aload_n hx hb dL_395 rfl (lv_at hl 0 rfl) ?_
  refine lv_iload_n hx hb dL_396 rfl (lv_at hl 3 rfl) ?_
  refine lv_iconst (v := 1) hx hb dL_397 (by decide) ?_
  refine lv_iadd hx hb dL_398 ?_
  refine va_sld hx hb hX hbl hbA hS1 hin1 dL_399 ?_
  refine lv_aload_n hx hb dL_400 rfl (lv_at hl 0 rfl) ?_
  refine lv_iload_n hx hb dL_401 rfl (lv_at hl 3 rfl) ?_
  refine lv_iconst (v := 2) hx hb dL_402 (by decide) ?_
  refine lv_iadd hx hb dL_403 ?_
  refine va_sld hx hb hX hbl hbA hS1 hin2 dL_404 ?_
  refine law_V X0 (As := [.int (xs (nI i + 1).toNatClampNeg), .int (xs (nI i + 2).toNatClampNeg)]) (rest := [.int r]) dL_405 vL_68 (by decide) (hSM pre h1 hpl hR1) ho1 rfl rfl (Nat.le_of_ble_eq_true rfl) hl.1 hk0 hn0 hP1 hD1 hS1 ?_
  intro rr h2 H2 locs2 hq hP2 hD2 hS2
  obtain ⟨rfl, hR2⟩ := hq
  show W p l e room_1 s m #[Value.ref b] below meth c H2 locs2 k0 n0 (lw_Z below #[Value.ref b] s) (F0 m 408 ls [.int r, .int r])
  exact lv_icmp_eq (tgt := 676) hx hb dL_408 (by decide) (fun _ => K A' h2 H2 locs2 ls (hfin h2 hR2) hP2 hD2 hS2 hl) (fun c => absurd rfl c)
set_option maxHeartbeats 4000000 in
set_option maxRecDepth 100000 in
theorem law_piece {p : Program} {l : Launch} {e : Env} {s : State} {m : MethodId} {below : List Frame} {meth : Method} {c : Code} {D : va_G} {cy ad : Nat → Nat} {b L : Nat} {xs : Nat → Int32} (X : LX p s m meth c D cy ad b L xs) {k0 n0 i : Nat} (hk0 : k0 ≤ 600000) (hn0 : n0 ≤ 7302250) (hL : L ≤ 2048) (hi : i + 4 ≤ L) (K : LGo p l e s m below meth c D cy ad b k0 n0 676 i) : LGo p l e s m below meth c D cy ad b k0 n0 413 i := by
  have X0 := X
  obtain ⟨hx, hb, hrt, hml, hown, hts, hK, hN, hX, hbl, hlocks⟩ := X
  intro A h H locs ls hJ hP hD hS hl
  have hbA : ¬ (fun q : Nat => s.heap.size ≤ q) b := Nat.not_le.mpr hbl
  have hin1 : vp_in (nI i + 1) L := by rw [show (nI i + 1 : Int32) = nI (i + 1) from nI_add i 1]; exact vp_in_nI (by omega) (by omega)
  have hin2 : vp_in (nI i + 2) L := by rw [show (nI i + 2 : Int32) = nI (i + 2) from nI_add i 2]; exact vp_in_nI (by omega) (by omega)
  obtain ⟨suf, hRS, hC⟩ := hJ
  obtain ⟨r, A', hSC, hSM⟩ := J_piece A (xs (nI i + 1).toNatClampNeg) (xs (nI i + 2).toNatClampNeg)
  obtain ⟨fs0, ho0⟩ := CIA_o hC
  refine lv_aload_n hx hb dL_413 rfl (lv_at hl 1 rfl) ?_
  refine lv_aload_n hx hb dL_414 rfl (lv_at hl 0 rfl) ?_
  refine lv_iload_n hx hb dL_415 rfl (lv_at hl 3 rfl) ?_
  refine lv_iconst (v := 1) hx hb dL_416 (by decide) ?_
  refine lv_iadd hx hb dL_417 ?_
  refine va_sld hx hb hX hbl hbA hS hin1 dL_418 ?_
  refine lv_aload_n hx hb dL_419 rfl (lv_at hl 0 rfl) ?_
  refine lv_iload_n hx hb dL_420 rfl (lv_at hl 3 rfl) ?_
  refine lv_iconst (v := 2) hx hb dL_421 (by decide) ?_
  refine lv_iadd hx hb dL_422 ?_
  refine va_sld hx hb hX hbl hbA hS hin2 dL_423 ?_
  refine law_V X0 (As := [.int (xs (nI i + 1).toNatClampNeg), .int (xs (nI i + 2).toNatClampNeg)]) (rest := []) dL_424 vL_69 (by decide) (hSC suf h hC) ho0 rfl rfl (Nat.le_of_ble_eq_true rfl) hl.1 hk0 hn0 hP hD hS ?_
  intro rr h1 H1 locs1 hq hP1 hD1 hS1
  obtain ⟨rfl, hC1⟩ := hq
  obtain ⟨pre, hpl, hR1, hfin⟩ := JA_mid hRS hC1
  obtain ⟨fs1, ho1⟩ := RIA_o hpl hR1
  show W p l e room_1 s m #[Value.ref b] below meth c H1 locs1 k0 n0 (lw_Z below #[Value.ref b] s) (F0 m 427 ls [.int r])
  refine lv_aload_n hx hb dL_427 rfl (lv_at hl 2 rfl) ?_
  refine lv_aload_n hx hb dL_428 rfl (lv_at hl 0 rfl) ?_
  refine lv_iload_n hx hb dL_429 rfl (lv_at hl 3 rfl) ?_
  refine lv_iconst (v := 1) hx hb dL_430 (by decide) ?_
  refine lv_iadd hx hb dL_431 ?_
  refine va_sld hx hb hX hbl hbA hS1 hin1 dL_432 ?_
  refine lv_aload_n hx hb dL_433 rfl (lv_at hl 0 rfl) ?_
  refine lv_iload_n hx hb dL_434 rfl (lv_at hl 3 rfl) ?_
  refine lv_iconst (v := 2) hx hb dL_435 (by decide) ?_
  refine lv_iadd hx hb dL_436 ?_
  refine va_sld hx hb hX hbl hbA hS1 hin2 dL_437 ?_
  refine law_V X0 (As := [.int (xs (nI i + 1).toNatClampNeg), .int (xs (nI i + 2).toNatClampNeg)]) (rest := [.int r]) dL_438 vL_72 (by decide) (hSM pre h1 hpl hR1) ho1 rfl rfl (Nat.le_of_ble_eq_true rfl) hl.1 hk0 hn0 hP1 hD1 hS1 ?_
  intro rr h2 H2 locs2 hq hP2 hD2 hS2
  obtain ⟨rfl, hR2⟩ := hq
  show W p l e room_1 s m #[Value.ref b] below meth c H2 locs2 k0 n0 (lw_Z below #[Value.ref b] s) (F0 m 441 ls [.int r, .int r])
  exact lv_icmp_eq (tgt := 676) hx hb dL_441 (by decide) (fun _ => K A' h2 H2 locs2 ls (hfin h2 hR2) hP2 hD2 hS2 hl) (fun c => absurd rfl c)
set_option maxHeartbeats 4000000 in
set_option maxRecDepth 100000 in
theorem law_root {p : Program} {l : Launch} {e : Env} {s : State} {m : MethodId} {below : List Frame} {meth : Method} {c : Code} {D : va_G} {cy ad : Nat → Nat} {b L : Nat} {xs : Nat → Int32} (X : LX p s m meth c D cy ad b L xs) {k0 n0 i : Nat} (hk0 : k0 ≤ 600000) (hn0 : n0 ≤ 7302250) (hL : L ≤ 2048) (hi : i + 4 ≤ L) (K : LGo p l e s m below meth c D cy ad b k0 n0 676 i) : LGo p l e s m below meth c D cy ad b k0 n0 446 i := by
  have X0 := X
  obtain ⟨hx, hb, hrt, hml, hown, hts, hK, hN, hX, hbl, hlocks⟩ := X
  intro A h H locs ls hJ hP hD hS hl
  have hbA : ¬ (fun q : Nat => s.heap.size ≤ q) b := Nat.not_le.mpr hbl
  have hin1 : vp_in (nI i + 1) L := by rw [show (nI i + 1 : Int32) = nI (i + 1) from nI_add i 1]; exact vp_in_nI (by omega) (by omega)
  obtain ⟨suf, hRS, hC⟩ := hJ
  obtain ⟨r, A', hSC, hSM⟩ := J_root A (xs (nI i + 1).toNatClampNeg)
  obtain ⟨fs0, ho0⟩ := CIA_o hC
  refine lv_aload_n hx hb dL_446 rfl (lv_at hl 1 rfl) ?_
  refine lv_aload_n hx hb dL_447 rfl (lv_at hl 0 rfl) ?_
  refine lv_iload_n hx hb dL_448 rfl (lv_at hl 3 rfl) ?_
  refine lv_iconst (v := 1) hx hb dL_449 (by decide) ?_
  refine lv_iadd hx hb dL_450 ?_
  refine va_sld hx hb hX hbl hbA hS hin1 dL_451 ?_
  refine law_V X0 (As := [.int (xs (nI i + 1).toNatClampNeg)]) (rest := []) dL_452 vL_73 (by decide) (hSC suf h hC) ho0 rfl rfl (Nat.le_of_ble_eq_true rfl) hl.1 hk0 hn0 hP hD hS ?_
  intro rr h1 H1 locs1 hq hP1 hD1 hS1
  obtain ⟨rfl, hC1⟩ := hq
  obtain ⟨pre, hpl, hR1, hfin⟩ := JA_mid hRS hC1
  obtain ⟨fs1, ho1⟩ := RIA_o hpl hR1
  show W p l e room_1 s m #[Value.ref b] below meth c H1 locs1 k0 n0 (lw_Z below #[Value.ref b] s) (F0 m 455 ls [.int r])
  refine lv_aload_n hx hb dL_455 rfl (lv_at hl 2 rfl) ?_
  refine lv_aload_n hx hb dL_456 rfl (lv_at hl 0 rfl) ?_
  refine lv_iload_n hx hb dL_457 rfl (lv_at hl 3 rfl) ?_
  refine lv_iconst (v := 1) hx hb dL_458 (by decide) ?_
  refine lv_iadd hx hb dL_459 ?_
  refine va_sld hx hb hX hbl hbA hS1 hin1 dL_460 ?_
  refine law_V X0 (As := [.int (xs (nI i + 1).toNatClampNeg)]) (rest := [.int r]) dL_461 vL_76 (by decide) (hSM pre h1 hpl hR1) ho1 rfl rfl (Nat.le_of_ble_eq_true rfl) hl.1 hk0 hn0 hP1 hD1 hS1 ?_
  intro rr h2 H2 locs2 hq hP2 hD2 hS2
  obtain ⟨rfl, hR2⟩ := hq
  show W p l e room_1 s m #[Value.ref b] below meth c H2 locs2 k0 n0 (lw_Z below #[Value.ref b] s) (F0 m 464 ls [.int r, .int r])
  exact lv_icmp_eq (tgt := 676) hx hb dL_464 (by decide) (fun _ => K A' h2 H2 locs2 ls (hfin h2 hR2) hP2 hD2 hS2 hl) (fun c => absurd rfl c)
set_option maxHeartbeats 4000000 in
set_option maxRecDepth 100000 in
theorem law_kin {p : Program} {l : Launch} {e : Env} {s : State} {m : MethodId} {below : List Frame} {meth : Method} {c : Code} {D : va_G} {cy ad : Nat → Nat} {b L : Nat} {xs : Nat → Int32} (X : LX p s m meth c D cy ad b L xs) {k0 n0 i : Nat} (hk0 : k0 ≤ 600000) (hn0 : n0 ≤ 7302250) (hL : L ≤ 2048) (hi : i + 4 ≤ L) (K : LGo p l e s m below meth c D cy ad b k0 n0 676 i) : LGo p l e s m below meth c D cy ad b k0 n0 469 i := by
  have X0 := X
  obtain ⟨hx, hb, hrt, hml, hown, hts, hK, hN, hX, hbl, hlocks⟩ := X
  intro A h H locs ls hJ hP hD hS hl
  have hbA : ¬ (fun q : Nat => s.heap.size ≤ q) b := Nat.not_le.mpr hbl
  have hin1 : vp_in (nI i + 1) L := by rw [show (nI i + 1 : Int32) = nI (i + 1) from nI_add i 1]; exact vp_in_nI (by omega) (by omega)
  have hin2 : vp_in (nI i + 2) L := by rw [show (nI i + 2 : Int32) = nI (i + 2) from nI_add i 2]; exact vp_in_nI (by omega) (by omega)
  obtain ⟨suf, hRS, hC⟩ := hJ
  obtain ⟨r, A', hSC, hSM⟩ := J_kin A (xs (nI i + 1).toNatClampNeg) (xs (nI i + 2).toNatClampNeg)
  obtain ⟨fs0, ho0⟩ := CIA_o hC
  refine lv_aload_n hx hb dL_469 rfl (lv_at hl 1 rfl) ?_
  refine lv_aload_n hx hb dL_470 rfl (lv_at hl 0 rfl) ?_
  refine lv_iload_n hx hb dL_471 rfl (lv_at hl 3 rfl) ?_
  refine lv_iconst (v := 1) hx hb dL_472 (by decide) ?_
  refine lv_iadd hx hb dL_473 ?_
  refine va_sld hx hb hX hbl hbA hS hin1 dL_474 ?_
  refine lv_aload_n hx hb dL_475 rfl (lv_at hl 0 rfl) ?_
  refine lv_iload_n hx hb dL_476 rfl (lv_at hl 3 rfl) ?_
  refine lv_iconst (v := 2) hx hb dL_477 (by decide) ?_
  refine lv_iadd hx hb dL_478 ?_
  refine va_sld hx hb hX hbl hbA hS hin2 dL_479 ?_
  refine law_V X0 (As := [.int (xs (nI i + 1).toNatClampNeg), .int (xs (nI i + 2).toNatClampNeg)]) (rest := []) dL_480 vL_77 (by decide) (hSC suf h hC) ho0 rfl rfl (Nat.le_of_ble_eq_true rfl) hl.1 hk0 hn0 hP hD hS ?_
  intro rr h1 H1 locs1 hq hP1 hD1 hS1
  obtain ⟨rfl, hC1⟩ := hq
  obtain ⟨pre, hpl, hR1, hfin⟩ := JA_mid hRS hC1
  obtain ⟨fs1, ho1⟩ := RIA_o hpl hR1
  show W p l e room_1 s m #[Value.ref b] below meth c H1 locs1 k0 n0 (lw_Z below #[Value.ref b] s) (F0 m 483 ls [.int r])
  refine lv_aload_n hx hb dL_483 rfl (lv_at hl 2 rfl) ?_
  refine lv_aload_n hx hb dL_484 rfl (lv_at hl 0 rfl) ?_
  refine lv_iload_n hx hb dL_485 rfl (lv_at hl 3 rfl) ?_
  refine lv_iconst (v := 1) hx hb dL_486 (by decide) ?_
  refine lv_iadd hx hb dL_487 ?_
  refine va_sld hx hb hX hbl hbA hS1 hin1 dL_488 ?_
  refine lv_aload_n hx hb dL_489 rfl (lv_at hl 0 rfl) ?_
  refine lv_iload_n hx hb dL_490 rfl (lv_at hl 3 rfl) ?_
  refine lv_iconst (v := 2) hx hb dL_491 (by decide) ?_
  refine lv_iadd hx hb dL_492 ?_
  refine va_sld hx hb hX hbl hbA hS1 hin2 dL_493 ?_
  refine law_V X0 (As := [.int (xs (nI i + 1).toNatClampNeg), .int (xs (nI i + 2).toNatClampNeg)]) (rest := [.int r]) dL_494 vL_80 (by decide) (hSM pre h1 hpl hR1) ho1 rfl rfl (Nat.le_of_ble_eq_true rfl) hl.1 hk0 hn0 hP1 hD1 hS1 ?_
  intro rr h2 H2 locs2 hq hP2 hD2 hS2
  obtain ⟨rfl, hR2⟩ := hq
  show W p l e room_1 s m #[Value.ref b] below meth c H2 locs2 k0 n0 (lw_Z below #[Value.ref b] s) (F0 m 497 ls [.int r, .int r])
  exact lv_icmp_eq (tgt := 676) hx hb dL_497 (by decide) (fun _ => K A' h2 H2 locs2 ls (hfin h2 hR2) hP2 hD2 hS2 hl) (fun c => absurd rfl c)
set_option maxHeartbeats 4000000 in
set_option maxRecDepth 100000 in
theorem law_bar {p : Program} {l : Launch} {e : Env} {s : State} {m : MethodId} {below : List Frame} {meth : Method} {c : Code} {D : va_G} {cy ad : Nat → Nat} {b L : Nat} {xs : Nat → Int32} (X : LX p s m meth c D cy ad b L xs) {k0 n0 i : Nat} (hk0 : k0 ≤ 600000) (hn0 : n0 ≤ 7302250) (hL : L ≤ 2048) (hi : i + 4 ≤ L) (K : LGo p l e s m below meth c D cy ad b k0 n0 676 i) : LGo p l e s m below meth c D cy ad b k0 n0 502 i := by
  have X0 := X
  obtain ⟨hx, hb, hrt, hml, hown, hts, hK, hN, hX, hbl, hlocks⟩ := X
  intro A h H locs ls hJ hP hD hS hl
  have hbA : ¬ (fun q : Nat => s.heap.size ≤ q) b := Nat.not_le.mpr hbl
  have hin1 : vp_in (nI i + 1) L := by rw [show (nI i + 1 : Int32) = nI (i + 1) from nI_add i 1]; exact vp_in_nI (by omega) (by omega)
  have hin2 : vp_in (nI i + 2) L := by rw [show (nI i + 2 : Int32) = nI (i + 2) from nI_add i 2]; exact vp_in_nI (by omega) (by omega)
  obtain ⟨suf, hRS, hC⟩ := hJ
  obtain ⟨r, A', hSC, hSM⟩ := J_bar A (xs (nI i + 1).toNatClampNeg) (xs (nI i + 2).toNatClampNeg)
  obtain ⟨fs0, ho0⟩ := CIA_o hC
  refine lv_aload_n hx hb dL_502 rfl (lv_at hl 1 rfl) ?_
  refine lv_aload_n hx hb dL_503 rfl (lv_at hl 0 rfl) ?_
  refine lv_iload_n hx hb dL_504 rfl (lv_at hl 3 rfl) ?_
  refine lv_iconst (v := 1) hx hb dL_505 (by decide) ?_
  refine lv_iadd hx hb dL_506 ?_
  refine va_sld hx hb hX hbl hbA hS hin1 dL_507 ?_
  refine lv_aload_n hx hb dL_508 rfl (lv_at hl 0 rfl) ?_
  refine lv_iload_n hx hb dL_509 rfl (lv_at hl 3 rfl) ?_
  refine lv_iconst (v := 2) hx hb dL_510 (by decide) ?_
  refine lv_iadd hx hb dL_511 ?_
  refine va_sld hx hb hX hbl hbA hS hin2 dL_512 ?_
  refine law_V X0 (As := [.int (xs (nI i + 1).toNatClampNeg), .int (xs (nI i + 2).toNatClampNeg)]) (rest := []) dL_513 vL_81 (by decide) (hSC suf h hC) ho0 rfl rfl (Nat.le_of_ble_eq_true rfl) hl.1 hk0 hn0 hP hD hS ?_
  intro rr h1 H1 locs1 hq hP1 hD1 hS1
  obtain ⟨rfl, hC1⟩ := hq
  obtain ⟨pre, hpl, hR1, hfin⟩ := JA_mid hRS hC1
  obtain ⟨fs1, ho1⟩ := RIA_o hpl hR1
  show W p l e room_1 s m #[Value.ref b] below meth c H1 locs1 k0 n0 (lw_Z below #[Value.ref b] s) (F0 m 516 ls [.int r])
  refine lv_aload_n hx hb dL_516 rfl (lv_at hl 2 rfl) ?_
  refine lv_aload_n hx hb dL_517 rfl (lv_at hl 0 rfl) ?_
  refine lv_iload_n hx hb dL_518 rfl (lv_at hl 3 rfl) ?_
  refine lv_iconst (v := 1) hx hb dL_519 (by decide) ?_
  refine lv_iadd hx hb dL_520 ?_
  refine va_sld hx hb hX hbl hbA hS1 hin1 dL_521 ?_
  refine lv_aload_n hx hb dL_522 rfl (lv_at hl 0 rfl) ?_
  refine lv_iload_n hx hb dL_523 rfl (lv_at hl 3 rfl) ?_
  refine lv_iconst (v := 2) hx hb dL_524 (by decide) ?_
  refine lv_iadd hx hb dL_525 ?_
  refine va_sld hx hb hX hbl hbA hS1 hin2 dL_526 ?_
  refine law_V X0 (As := [.int (xs (nI i + 1).toNatClampNeg), .int (xs (nI i + 2).toNatClampNeg)]) (rest := [.int r]) dL_527 vL_84 (by decide) (hSM pre h1 hpl hR1) ho1 rfl rfl (Nat.le_of_ble_eq_true rfl) hl.1 hk0 hn0 hP1 hD1 hS1 ?_
  intro rr h2 H2 locs2 hq hP2 hD2 hS2
  obtain ⟨rfl, hR2⟩ := hq
  show W p l e room_1 s m #[Value.ref b] below meth c H2 locs2 k0 n0 (lw_Z below #[Value.ref b] s) (F0 m 530 ls [.int r, .int r])
  exact lv_icmp_eq (tgt := 676) hx hb dL_530 (by decide) (fun _ => K A' h2 H2 locs2 ls (hfin h2 hR2) hP2 hD2 hS2 hl) (fun c => absurd rfl c)
set_option maxHeartbeats 4000000 in
set_option maxRecDepth 100000 in
theorem law_lasting {p : Program} {l : Launch} {e : Env} {s : State} {m : MethodId} {below : List Frame} {meth : Method} {c : Code} {D : va_G} {cy ad : Nat → Nat} {b L : Nat} {xs : Nat → Int32} (X : LX p s m meth c D cy ad b L xs) {k0 n0 i : Nat} (hk0 : k0 ≤ 600000) (hn0 : n0 ≤ 7302250) (hL : L ≤ 2048) (hi : i + 4 ≤ L) (K : LGo p l e s m below meth c D cy ad b k0 n0 676 i) : LGo p l e s m below meth c D cy ad b k0 n0 535 i := by
  have X0 := X
  obtain ⟨hx, hb, hrt, hml, hown, hts, hK, hN, hX, hbl, hlocks⟩ := X
  intro A h H locs ls hJ hP hD hS hl
  have hbA : ¬ (fun q : Nat => s.heap.size ≤ q) b := Nat.not_le.mpr hbl
  have hin1 : vp_in (nI i + 1) L := by rw [show (nI i + 1 : Int32) = nI (i + 1) from nI_add i 1]; exact vp_in_nI (by omega) (by omega)
  have hin2 : vp_in (nI i + 2) L := by rw [show (nI i + 2 : Int32) = nI (i + 2) from nI_add i 2]; exact vp_in_nI (by omega) (by omega)
  obtain ⟨suf, hRS, hC⟩ := hJ
  obtain ⟨r, A', hSC, hSM⟩ := J_lasting A (xs (nI i + 1).toNatClampNeg) (xs (nI i + 2).toNatClampNeg)
  obtain ⟨fs0, ho0⟩ := CIA_o hC
  refine lv_aload_n hx hb dL_535 rfl (lv_at hl 1 rfl) ?_
  refine lv_aload_n hx hb dL_536 rfl (lv_at hl 0 rfl) ?_
  refine lv_iload_n hx hb dL_537 rfl (lv_at hl 3 rfl) ?_
  refine lv_iconst (v := 1) hx hb dL_538 (by decide) ?_
  refine lv_iadd hx hb dL_539 ?_
  refine va_sld hx hb hX hbl hbA hS hin1 dL_540 ?_
  refine lv_aload_n hx hb dL_541 rfl (lv_at hl 0 rfl) ?_
  refine lv_iload_n hx hb dL_542 rfl (lv_at hl 3 rfl) ?_
  refine lv_iconst (v := 2) hx hb dL_543 (by decide) ?_
  refine lv_iadd hx hb dL_544 ?_
  refine va_sld hx hb hX hbl hbA hS hin2 dL_545 ?_
  refine law_V X0 (As := [.int (xs (nI i + 1).toNatClampNeg), .int (xs (nI i + 2).toNatClampNeg)]) (rest := []) dL_546 vL_85 (by decide) (hSC suf h hC) ho0 rfl rfl (Nat.le_of_ble_eq_true rfl) hl.1 hk0 hn0 hP hD hS ?_
  intro rr h1 H1 locs1 hq hP1 hD1 hS1
  obtain ⟨rfl, hC1⟩ := hq
  obtain ⟨pre, hpl, hR1, hfin⟩ := JA_mid hRS hC1
  obtain ⟨fs1, ho1⟩ := RIA_o hpl hR1
  show W p l e room_1 s m #[Value.ref b] below meth c H1 locs1 k0 n0 (lw_Z below #[Value.ref b] s) (F0 m 549 ls [.int r])
  refine lv_aload_n hx hb dL_549 rfl (lv_at hl 2 rfl) ?_
  refine lv_aload_n hx hb dL_550 rfl (lv_at hl 0 rfl) ?_
  refine lv_iload_n hx hb dL_551 rfl (lv_at hl 3 rfl) ?_
  refine lv_iconst (v := 1) hx hb dL_552 (by decide) ?_
  refine lv_iadd hx hb dL_553 ?_
  refine va_sld hx hb hX hbl hbA hS1 hin1 dL_554 ?_
  refine lv_aload_n hx hb dL_555 rfl (lv_at hl 0 rfl) ?_
  refine lv_iload_n hx hb dL_556 rfl (lv_at hl 3 rfl) ?_
  refine lv_iconst (v := 2) hx hb dL_557 (by decide) ?_
  refine lv_iadd hx hb dL_558 ?_
  refine va_sld hx hb hX hbl hbA hS1 hin2 dL_559 ?_
  refine law_V X0 (As := [.int (xs (nI i + 1).toNatClampNeg), .int (xs (nI i + 2).toNatClampNeg)]) (rest := [.int r]) dL_560 vL_88 (by decide) (hSM pre h1 hpl hR1) ho1 rfl rfl (Nat.le_of_ble_eq_true rfl) hl.1 hk0 hn0 hP1 hD1 hS1 ?_
  intro rr h2 H2 locs2 hq hP2 hD2 hS2
  obtain ⟨rfl, hR2⟩ := hq
  show W p l e room_1 s m #[Value.ref b] below meth c H2 locs2 k0 n0 (lw_Z below #[Value.ref b] s) (F0 m 563 ls [.int r, .int r])
  exact lv_icmp_eq (tgt := 676) hx hb dL_563 (by decide) (fun _ => K A' h2 H2 locs2 ls (hfin h2 hR2) hP2 hD2 hS2 hl) (fun c => absurd rfl c)
set_option maxHeartbeats 4000000 in
set_option maxRecDepth 100000 in
theorem law_longer {p : Program} {l : Launch} {e : Env} {s : State} {m : MethodId} {below : List Frame} {meth : Method} {c : Code} {D : va_G} {cy ad : Nat → Nat} {b L : Nat} {xs : Nat → Int32} (X : LX p s m meth c D cy ad b L xs) {k0 n0 i : Nat} (hk0 : k0 ≤ 600000) (hn0 : n0 ≤ 7302250) (hL : L ≤ 2048) (hi : i + 4 ≤ L) (K : LGo p l e s m below meth c D cy ad b k0 n0 676 i) : LGo p l e s m below meth c D cy ad b k0 n0 568 i := by
  have X0 := X
  obtain ⟨hx, hb, hrt, hml, hown, hts, hK, hN, hX, hbl, hlocks⟩ := X
  intro A h H locs ls hJ hP hD hS hl
  have hbA : ¬ (fun q : Nat => s.heap.size ≤ q) b := Nat.not_le.mpr hbl
  have hin1 : vp_in (nI i + 1) L := by rw [show (nI i + 1 : Int32) = nI (i + 1) from nI_add i 1]; exact vp_in_nI (by omega) (by omega)
  obtain ⟨suf, hRS, hC⟩ := hJ
  obtain ⟨r, A', hSC, hSM⟩ := J_longer A (xs (nI i + 1).toNatClampNeg)
  obtain ⟨fs0, ho0⟩ := CIA_o hC
  refine lv_aload_n hx hb dL_568 rfl (lv_at hl 1 rfl) ?_
  refine lv_aload_n hx hb dL_569 rfl (lv_at hl 0 rfl) ?_
  refine lv_iload_n hx hb dL_570 rfl (lv_at hl 3 rfl) ?_
  refine lv_iconst (v := 1) hx hb dL_571 (by decide) ?_
  refine lv_iadd hx hb dL_572 ?_
  refine va_sld hx hb hX hbl hbA hS hin1 dL_573 ?_
  refine law_V X0 (As := [.int (xs (nI i + 1).toNatClampNeg)]) (rest := []) dL_574 vL_89 (by decide) (hSC suf h hC) ho0 rfl rfl (Nat.le_of_ble_eq_true rfl) hl.1 hk0 hn0 hP hD hS ?_
  intro rr h1 H1 locs1 hq hP1 hD1 hS1
  obtain ⟨rfl, hC1⟩ := hq
  obtain ⟨pre, hpl, hR1, hfin⟩ := JA_mid hRS hC1
  obtain ⟨fs1, ho1⟩ := RIA_o hpl hR1
  show W p l e room_1 s m #[Value.ref b] below meth c H1 locs1 k0 n0 (lw_Z below #[Value.ref b] s) (F0 m 577 ls [.int r])
  refine lv_aload_n hx hb dL_577 rfl (lv_at hl 2 rfl) ?_
  refine lv_aload_n hx hb dL_578 rfl (lv_at hl 0 rfl) ?_
  refine lv_iload_n hx hb dL_579 rfl (lv_at hl 3 rfl) ?_
  refine lv_iconst (v := 1) hx hb dL_580 (by decide) ?_
  refine lv_iadd hx hb dL_581 ?_
  refine va_sld hx hb hX hbl hbA hS1 hin1 dL_582 ?_
  refine law_V X0 (As := [.int (xs (nI i + 1).toNatClampNeg)]) (rest := [.int r]) dL_583 vL_92 (by decide) (hSM pre h1 hpl hR1) ho1 rfl rfl (Nat.le_of_ble_eq_true rfl) hl.1 hk0 hn0 hP1 hD1 hS1 ?_
  intro rr h2 H2 locs2 hq hP2 hD2 hS2
  obtain ⟨rfl, hR2⟩ := hq
  show W p l e room_1 s m #[Value.ref b] below meth c H2 locs2 k0 n0 (lw_Z below #[Value.ref b] s) (F0 m 586 ls [.int r, .int r])
  exact lv_icmp_eq (tgt := 676) hx hb dL_586 (by decide) (fun _ => K A' h2 H2 locs2 ls (hfin h2 hR2) hP2 hD2 hS2 hl) (fun c => absurd rfl c)
set_option maxHeartbeats 4000000 in
set_option maxRecDepth 100000 in
theorem law_steadiest {p : Program} {l : Launch} {e : Env} {s : State} {m : MethodId} {below : List Frame} {meth : Method} {c : Code} {D : va_G} {cy ad : Nat → Nat} {b L : Nat} {xs : Nat → Int32} (X : LX p s m meth c D cy ad b L xs) {k0 n0 i : Nat} (hk0 : k0 ≤ 600000) (hn0 : n0 ≤ 7302250) (hL : L ≤ 2048) (hi : i + 4 ≤ L) (K : LGo p l e s m below meth c D cy ad b k0 n0 676 i) : LGo p l e s m below meth c D cy ad b k0 n0 591 i := by
  have X0 := X
  obtain ⟨hx, hb, hrt, hml, hown, hts, hK, hN, hX, hbl, hlocks⟩ := X
  intro A h H locs ls hJ hP hD hS hl
  have hbA : ¬ (fun q : Nat => s.heap.size ≤ q) b := Nat.not_le.mpr hbl
  have hin1 : vp_in (nI i + 1) L := by rw [show (nI i + 1 : Int32) = nI (i + 1) from nI_add i 1]; exact vp_in_nI (by omega) (by omega)
  obtain ⟨suf, hRS, hC⟩ := hJ
  obtain ⟨r, A', hSC, hSM⟩ := J_steadiest A (xs (nI i + 1).toNatClampNeg)
  obtain ⟨fs0, ho0⟩ := CIA_o hC
  refine lv_aload_n hx hb dL_591 rfl (lv_at hl 1 rfl) ?_
  refine lv_aload_n hx hb dL_592 rfl (lv_at hl 0 rfl) ?_
  refine lv_iload_n hx hb dL_593 rfl (lv_at hl 3 rfl) ?_
  refine lv_iconst (v := 1) hx hb dL_594 (by decide) ?_
  refine lv_iadd hx hb dL_595 ?_
  refine va_sld hx hb hX hbl hbA hS hin1 dL_596 ?_
  refine law_V X0 (As := [.int (xs (nI i + 1).toNatClampNeg)]) (rest := []) dL_597 vL_93 (by decide) (hSC suf h hC) ho0 rfl rfl (Nat.le_of_ble_eq_true rfl) hl.1 hk0 hn0 hP hD hS ?_
  intro rr h1 H1 locs1 hq hP1 hD1 hS1
  obtain ⟨rfl, hC1⟩ := hq
  obtain ⟨pre, hpl, hR1, hfin⟩ := JA_mid hRS hC1
  obtain ⟨fs1, ho1⟩ := RIA_o hpl hR1
  show W p l e room_1 s m #[Value.ref b] below meth c H1 locs1 k0 n0 (lw_Z below #[Value.ref b] s) (F0 m 600 ls [.int r])
  refine lv_aload_n hx hb dL_600 rfl (lv_at hl 2 rfl) ?_
  refine lv_aload_n hx hb dL_601 rfl (lv_at hl 0 rfl) ?_
  refine lv_iload_n hx hb dL_602 rfl (lv_at hl 3 rfl) ?_
  refine lv_iconst (v := 1) hx hb dL_603 (by decide) ?_
  refine lv_iadd hx hb dL_604 ?_
  refine va_sld hx hb hX hbl hbA hS1 hin1 dL_605 ?_
  refine law_V X0 (As := [.int (xs (nI i + 1).toNatClampNeg)]) (rest := [.int r]) dL_606 vL_96 (by decide) (hSM pre h1 hpl hR1) ho1 rfl rfl (Nat.le_of_ble_eq_true rfl) hl.1 hk0 hn0 hP1 hD1 hS1 ?_
  intro rr h2 H2 locs2 hq hP2 hD2 hS2
  obtain ⟨rfl, hR2⟩ := hq
  show W p l e room_1 s m #[Value.ref b] below meth c H2 locs2 k0 n0 (lw_Z below #[Value.ref b] s) (F0 m 609 ls [.int r, .int r])
  exact lv_icmp_eq (tgt := 676) hx hb dL_609 (by decide) (fun _ => K A' h2 H2 locs2 ls (hfin h2 hR2) hP2 hD2 hS2 hl) (fun c => absurd rfl c)
set_option maxHeartbeats 4000000 in
set_option maxRecDepth 100000 in
theorem law_keep {p : Program} {l : Launch} {e : Env} {s : State} {m : MethodId} {below : List Frame} {meth : Method} {c : Code} {D : va_G} {cy ad : Nat → Nat} {b L : Nat} {xs : Nat → Int32} (X : LX p s m meth c D cy ad b L xs) {k0 n0 i : Nat} (hk0 : k0 ≤ 600000) (hn0 : n0 ≤ 7302250) (hL : L ≤ 2048) (hi : i + 4 ≤ L) (K : LGo p l e s m below meth c D cy ad b k0 n0 676 i) : LGo p l e s m below meth c D cy ad b k0 n0 614 i := by
  have X0 := X
  obtain ⟨hx, hb, hrt, hml, hown, hts, hK, hN, hX, hbl, hlocks⟩ := X
  intro A h H locs ls hJ hP hD hS hl
  have hbA : ¬ (fun q : Nat => s.heap.size ≤ q) b := Nat.not_le.mpr hbl
  obtain ⟨suf, hRS, hC⟩ := hJ
  obtain ⟨r, A', hSC, hSM⟩ := J_keep A 
  obtain ⟨fs0, ho0⟩ := CIA_o hC
  refine lv_aload_n hx hb dL_614 rfl (lv_at hl 1 rfl) ?_
  refine law_V X0 (As := []) (rest := []) dL_615 vL_97 (by decide) (hSC suf h hC) ho0 rfl rfl (Nat.le_of_ble_eq_true rfl) hl.1 hk0 hn0 hP hD hS ?_
  intro rr h1 H1 locs1 hq hP1 hD1 hS1
  obtain ⟨rfl, hC1⟩ := hq
  obtain ⟨pre, hpl, hR1, hfin⟩ := JA_mid hRS hC1
  obtain ⟨fs1, ho1⟩ := RIA_o hpl hR1
  show W p l e room_1 s m #[Value.ref b] below meth c H1 locs1 k0 n0 (lw_Z below #[Value.ref b] s) (F0 m 618 ls [.int r])
  refine lv_aload_n hx hb dL_618 rfl (lv_at hl 2 rfl) ?_
  refine law_V X0 (As := []) (rest := [.int r]) dL_619 vL_100 (by decide) (hSM pre h1 hpl hR1) ho1 rfl rfl (Nat.le_of_ble_eq_true rfl) hl.1 hk0 hn0 hP1 hD1 hS1 ?_
  intro rr h2 H2 locs2 hq hP2 hD2 hS2
  obtain ⟨rfl, hR2⟩ := hq
  show W p l e room_1 s m #[Value.ref b] below meth c H2 locs2 k0 n0 (lw_Z below #[Value.ref b] s) (F0 m 622 ls [.int r, .int r])
  exact lv_icmp_eq (tgt := 676) hx hb dL_622 (by decide) (fun _ => K A' h2 H2 locs2 ls (hfin h2 hR2) hP2 hD2 hS2 hl) (fun c => absurd rfl c)
set_option maxHeartbeats 4000000 in
set_option maxRecDepth 100000 in
theorem law_other {p : Program} {l : Launch} {e : Env} {s : State} {m : MethodId} {below : List Frame} {meth : Method} {c : Code} {D : va_G} {cy ad : Nat → Nat} {b L : Nat} {xs : Nat → Int32} (X : LX p s m meth c D cy ad b L xs) {k0 n0 i : Nat} (hk0 : k0 ≤ 600000) (hn0 : n0 ≤ 7302250) (hL : L ≤ 2048) (hi : i + 4 ≤ L) (K : LGo p l e s m below meth c D cy ad b k0 n0 676 i) : LGo p l e s m below meth c D cy ad b k0 n0 627 i := by
  have X0 := X
  obtain ⟨hx, hb, hrt, hml, hown, hts, hK, hN, hX, hbl, hlocks⟩ := X
  intro A h H locs ls hJ hP hD hS hl
  have hbA : ¬ (fun q : Nat => s.heap.size ≤ q) b := Nat.not_le.mpr hbl
  obtain ⟨suf, hRS, hC⟩ := hJ
  obtain ⟨r, A', hSC, hSM⟩ := J_other A 
  obtain ⟨fs0, ho0⟩ := CIA_o hC
  refine lv_aload_n hx hb dL_627 rfl (lv_at hl 1 rfl) ?_
  refine law_V X0 (As := []) (rest := []) dL_628 vL_101 (by decide) (hSC suf h hC) ho0 rfl rfl (Nat.le_of_ble_eq_true rfl) hl.1 hk0 hn0 hP hD hS ?_
  intro rr h1 H1 locs1 hq hP1 hD1 hS1
  obtain ⟨rfl, hC1⟩ := hq
  obtain ⟨pre, hpl, hR1, hfin⟩ := JA_mid hRS hC1
  obtain ⟨fs1, ho1⟩ := RIA_o hpl hR1
  show W p l e room_1 s m #[Value.ref b] below meth c H1 locs1 k0 n0 (lw_Z below #[Value.ref b] s) (F0 m 631 ls [.int r])
  refine lv_aload_n hx hb dL_631 rfl (lv_at hl 2 rfl) ?_
  refine law_V X0 (As := []) (rest := [.int r]) dL_632 vL_104 (by decide) (hSM pre h1 hpl hR1) ho1 rfl rfl (Nat.le_of_ble_eq_true rfl) hl.1 hk0 hn0 hP1 hD1 hS1 ?_
  intro rr h2 H2 locs2 hq hP2 hD2 hS2
  obtain ⟨rfl, hR2⟩ := hq
  show W p l e room_1 s m #[Value.ref b] below meth c H2 locs2 k0 n0 (lw_Z below #[Value.ref b] s) (F0 m 635 ls [.int r, .int r])
  exact lv_icmp_eq (tgt := 676) hx hb dL_635 (by decide) (fun _ => K A' h2 H2 locs2 ls (hfin h2 hR2) hP2 hD2 hS2 hl) (fun c => absurd rfl c)
set_option maxHeartbeats 4000000 in
set_option maxRecDepth 100000 in
theorem law_back {p : Program} {l : Launch} {e : Env} {s : State} {m : MethodId} {below : List Frame} {meth : Method} {c : Code} {D : va_G} {cy ad : Nat → Nat} {b L : Nat} {xs : Nat → Int32} (X : LX p s m meth c D cy ad b L xs) {k0 n0 i : Nat} (hk0 : k0 ≤ 600000) (hn0 : n0 ≤ 7302250) (hL : L ≤ 2048) (hi : i + 4 ≤ L) (K : LGo p l e s m below meth c D cy ad b k0 n0 676 i) : LGo p l e s m below meth c D cy ad b k0 n0 640 i := by
  have X0 := X
  obtain ⟨hx, hb, hrt, hml, hown, hts, hK, hN, hX, hbl, hlocks⟩ := X
  intro A h H locs ls hJ hP hD hS hl
  have hbA : ¬ (fun q : Nat => s.heap.size ≤ q) b := Nat.not_le.mpr hbl
  obtain ⟨suf, hRS, hC⟩ := hJ
  obtain ⟨r, A', hSC, hSM⟩ := J_back A 
  obtain ⟨fs0, ho0⟩ := CIA_o hC
  refine lv_aload_n hx hb dL_640 rfl (lv_at hl 1 rfl) ?_
  refine law_V X0 (As := []) (rest := []) dL_641 vL_105 (by decide) (hSC suf h hC) ho0 rfl rfl (Nat.le_of_ble_eq_true rfl) hl.1 hk0 hn0 hP hD hS ?_
  intro rr h1 H1 locs1 hq hP1 hD1 hS1
  obtain ⟨rfl, hC1⟩ := hq
  obtain ⟨pre, hpl, hR1, hfin⟩ := JA_mid hRS hC1
  obtain ⟨fs1, ho1⟩ := RIA_o hpl hR1
  show W p l e room_1 s m #[Value.ref b] below meth c H1 locs1 k0 n0 (lw_Z below #[Value.ref b] s) (F0 m 644 ls [.int r])
  refine lv_aload_n hx hb dL_644 rfl (lv_at hl 2 rfl) ?_
  refine law_V X0 (As := []) (rest := [.int r]) dL_645 vL_108 (by decide) (hSM pre h1 hpl hR1) ho1 rfl rfl (Nat.le_of_ble_eq_true rfl) hl.1 hk0 hn0 hP1 hD1 hS1 ?_
  intro rr h2 H2 locs2 hq hP2 hD2 hS2
  obtain ⟨rfl, hR2⟩ := hq
  show W p l e room_1 s m #[Value.ref b] below meth c H2 locs2 k0 n0 (lw_Z below #[Value.ref b] s) (F0 m 648 ls [.int r, .int r])
  exact lv_icmp_eq (tgt := 676) hx hb dL_648 (by decide) (fun _ => K A' h2 H2 locs2 ls (hfin h2 hR2) hP2 hD2 hS2 hl) (fun c => absurd rfl c)
set_option maxHeartbeats 4000000 in
set_option maxRecDepth 100000 in
theorem law_count {p : Program} {l : Launch} {e : Env} {s : State} {m : MethodId} {below : List Frame} {meth : Method} {c : Code} {D : va_G} {cy ad : Nat → Nat} {b L : Nat} {xs : Nat → Int32} (X : LX p s m meth c D cy ad b L xs) {k0 n0 i : Nat} (hk0 : k0 ≤ 600000) (hn0 : n0 ≤ 7302250) (hL : L ≤ 2048) (hi : i + 4 ≤ L) (K : LGo p l e s m below meth c D cy ad b k0 n0 676 i) : LGo p l e s m below meth c D cy ad b k0 n0 653 i := by
  have X0 := X
  obtain ⟨hx, hb, hrt, hml, hown, hts, hK, hN, hX, hbl, hlocks⟩ := X
  intro A h H locs ls hJ hP hD hS hl
  have hbA : ¬ (fun q : Nat => s.heap.size ≤ q) b := Nat.not_le.mpr hbl
  have hin1 : vp_in (nI i + 1) L := by rw [show (nI i + 1 : Int32) = nI (i + 1) from nI_add i 1]; exact vp_in_nI (by omega) (by omega)
  obtain ⟨suf, hRS, hC⟩ := hJ
  obtain ⟨r, A', hSC, hSM⟩ := J_count A (xs (nI i + 1).toNatClampNeg)
  obtain ⟨fs0, ho0⟩ := CIA_o hC
  refine lv_aload_n hx hb dL_653 rfl (lv_at hl 1 rfl) ?_
  refine lv_aload_n hx hb dL_654 rfl (lv_at hl 0 rfl) ?_
  refine lv_iload_n hx hb dL_655 rfl (lv_at hl 3 rfl) ?_
  refine lv_iconst (v := 1) hx hb dL_656 (by decide) ?_
  refine lv_iadd hx hb dL_657 ?_
  refine va_sld hx hb hX hbl hbA hS hin1 dL_658 ?_
  refine law_V X0 (As := [.int (xs (nI i + 1).toNatClampNeg)]) (rest := []) dL_659 vL_109 (by decide) (hSC suf h hC) ho0 rfl rfl (Nat.le_of_ble_eq_true rfl) hl.1 hk0 hn0 hP hD hS ?_
  intro rr h1 H1 locs1 hq hP1 hD1 hS1
  obtain ⟨rfl, hC1⟩ := hq
  obtain ⟨pre, hpl, hR1, hfin⟩ := JA_mid hRS hC1
  obtain ⟨fs1, ho1⟩ := RIA_o hpl hR1
  show W p l e room_1 s m #[Value.ref b] below meth c H1 locs1 k0 n0 (lw_Z below #[Value.ref b] s) (F0 m 662 ls [.int r])
  refine lv_aload_n hx hb dL_662 rfl (lv_at hl 2 rfl) ?_
  refine lv_aload_n hx hb dL_663 rfl (lv_at hl 0 rfl) ?_
  refine lv_iload_n hx hb dL_664 rfl (lv_at hl 3 rfl) ?_
  refine lv_iconst (v := 1) hx hb dL_665 (by decide) ?_
  refine lv_iadd hx hb dL_666 ?_
  refine va_sld hx hb hX hbl hbA hS1 hin1 dL_667 ?_
  refine law_V X0 (As := [.int (xs (nI i + 1).toNatClampNeg)]) (rest := [.int r]) dL_668 vL_112 (by decide) (hSM pre h1 hpl hR1) ho1 rfl rfl (Nat.le_of_ble_eq_true rfl) hl.1 hk0 hn0 hP1 hD1 hS1 ?_
  intro rr h2 H2 locs2 hq hP2 hD2 hS2
  obtain ⟨rfl, hR2⟩ := hq
  show W p l e room_1 s m #[Value.ref b] below meth c H2 locs2 k0 n0 (lw_Z below #[Value.ref b] s) (F0 m 671 ls [.int r, .int r])
  exact lv_icmp_eq (tgt := 676) hx hb dL_671 (by decide) (fun _ => K A' h2 H2 locs2 ls (hfin h2 hR2) hP2 hD2 hS2 hl) (fun c => absurd rfl c)
theorem law_end {L i : Nat} (hL : L ≤ 2048) (hi : i ≤ 3000) (c : ¬ (Int32.ofNat L - 4 : Int32) < nI i) : i + 4 ≤ L := by
  rcases Nat.lt_or_ge L 4 with q | q
  · exfalso
    rcases (by omega : L = 0 ∨ L = 1 ∨ L = 2 ∨ L = 3) with e | e | e | e <;> (subst e; exact c (nI_neg (by decide) (by omega)))
  · have e : (Int32.ofNat L - 4 : Int32) = nI (L - 4) := by
      have e2 : nI (L - 4) + nI 4 = nI (L - 4 + 4) := nI_add (L - 4) 4
      rw [show L - 4 + 4 = L by omega] at e2
      have e3 : (Int32.ofNat L : Int32) = nI L := rfl
      rw [e3, ← e2]
      exact Int32.add_sub_cancel _ _
    rw [e] at c
    have : ¬ L - 4 < i := fun z => c ((nI_ltI (a := L - 4) (b := i) (by omega) (by omega)).mpr z)
    omega
set_option maxHeartbeats 4000000 in
set_option maxRecDepth 100000 in
theorem law_loop {p : Program} {l : Launch} {e : Env} {s : State} {m : MethodId} {below : List Frame} {meth : Method} {c : Code} {D : va_G} {cy ad : Nat → Nat} {b L : Nat} {xs : Nat → Int32} (X : LX p s m meth c D cy ad b L xs) {k0 n0 : Nat} (hk0 : k0 ≤ 600000) (hn0 : n0 ≤ 7302250) (hL : L ≤ 2048) : ∀ (n i : Nat), i ≤ L + 4 → L + 5 ≤ i + n → LGo p l e s m below meth c D cy ad b k0 n0 18 i := by
  have X0 := X
  obtain ⟨hx, hb, hrt, hml, hown, hts, hK, hN, hX, hbl, hlocks⟩ := X
  have hbA : ¬ (fun q : Nat => s.heap.size ≤ q) b := Nat.not_le.mpr hbl
  intro n
  induction n with
  | zero =>
    intro i h1 h2
    omega
  | succ n ih =>
    intro i h1 h2 A h H locs ls hJ hP hD hS hl
    refine lv_iload_n hx hb dL_18 rfl (lv_at hl 3 rfl) ?_
    refine lv_aload_n hx hb dL_19 rfl (lv_at hl 0 rfl) ?_
    refine va_slen hx hb hX hbl hbA hS dL_20 ?_
    refine lv_iconst (v := 4) hx hb dL_21 (by decide) ?_
    refine lv_isub hx hb dL_22 ?_
    refine lv_icmp_gt (tgt := 682) hx hb dL_23 (by decide) (fun _ => ?_) (fun c23 => ?_)
    · refine lv_iconst (v := 1) hx hb dL_682 (by decide) ?_
      refine va_forget (fun q hq => hS.2.2 q hq) ?_
      refine W.widen (k := 600000) (n := 7302250) hk0 hn0 ?_
      exact lw_ret hx hb hrt hlocks dL_683
    · have hi4 := law_end hL (by omega) c23
      have K676 : LGo p l e s m below meth c D cy ad b k0 n0 676 i := by
        intro A2 h2' H2 locs2 ls2 hJ2 hP2 hD2 hS2 hl2
        refine lv_iinc (v := nI (i + 4)) (lv' := [(3, .int (nI (i + 4))), (0, .ref b), (1, .ref (ad 0)), (2, .ref (ad 49))]) hx hb dL_676 hl2 (k := 3) rfl (nI_add i 4) (by decide) rfl (fun ls3 hl3 => ?_)
        refine lv_goto (tgt := 18) hx hb dL_679 (by decide) ?_
        exact ih (i + 4) (by omega) (by omega) A2 h2' H2 locs2 ls3 hJ2 hP2 hD2 hS2 (lv_sub hl3 [1, 2, 3, 0] rfl)
      have hin0 : vp_in (nI i) L := vp_in_nI (by omega) (by omega)
      refine lv_aload_n hx hb dL_26 rfl (lv_at hl 0 rfl) ?_
      refine lv_iload_n hx hb dL_27 rfl (lv_at hl 3 rfl) ?_
      refine va_sld hx hb hX hbl hbA hS hin0 dL_28 ?_
      refine lv_bipush (v := 31) hx hb dL_29 (by decide) ?_
      refine lv_iand hx hb dL_31 ?_
      generalize (xs (nI i).toNatClampNeg &&& 31 : Int32) = t
      rcases i32_cases t with hn | ⟨k, hk, rfl⟩
      · exact lv_tableOut (tgt := 676) hx hb dL_32 (Or.inl (by rw [Int32.lt_iff_toInt_lt] at hn; exact hn)) (by decide) (K676 A h H locs ls hJ hP hD hS hl)
      · rcases Nat.lt_or_ge 23 k with q | q
        · exact lv_tableOut (tgt := 676) hx hb dL_32 (Or.inr (by have z : nI 23 < nI k := (nI_ltI (by decide) hk).mpr q; rw [Int32.lt_iff_toInt_lt] at z; exact z)) (by decide) (K676 A h H locs ls hJ hP hD hS hl)
        · rcases (by omega : k = 0 ∨ k = 1 ∨ k = 2 ∨ k = 3 ∨ k = 4 ∨ k = 5 ∨ k = 6 ∨ k = 7 ∨ k = 8 ∨ k = 9 ∨ k = 10 ∨ k = 11 ∨ k = 12 ∨ k = 13 ∨ k = 14 ∨ k = 15 ∨ k = 16 ∨ k = 17 ∨ k = 18 ∨ k = 19 ∨ k = 20 ∨ k = 21 ∨ k = 22 ∨ k = 23) with rfl | rfl | rfl | rfl | rfl | rfl | rfl | rfl | rfl | rfl | rfl | rfl | rfl | rfl | rfl | rfl | rfl | rfl | rfl | rfl | rfl | rfl | rfl | rfl
          · exact lv_tableIn (tgt := 144) (off := 112) hx hb dL_32 (by decide) (by decide) (by decide) (by decide) (law_write X0 hk0 hn0 hL hi4 K676 A h H locs ls hJ hP hD hS hl)
          · exact lv_tableIn (tgt := 167) (off := 135) hx hb dL_32 (by decide) (by decide) (by decide) (by decide) (law_wipe X0 hk0 hn0 hL hi4 K676 A h H locs ls hJ hP hD hS hl)
          · exact lv_tableIn (tgt := 180) (off := 148) hx hb dL_32 (by decide) (by decide) (by decide) (by decide) (law_fault X0 hk0 hn0 hL hi4 K676 A h H locs ls hJ hP hD hS hl)
          · exact lv_tableIn (tgt := 193) (off := 161) hx hb dL_32 (by decide) (by decide) (by decide) (by decide) (law_lay X0 hk0 hn0 hL hi4 K676 A h H locs ls hJ hP hD hS hl)
          · exact lv_tableIn (tgt := 206) (off := 174) hx hb dL_32 (by decide) (by decide) (by decide) (by decide) (law_act X0 hk0 hn0 hL hi4 K676 A h H locs ls hJ hP hD hS hl)
          · exact lv_tableIn (tgt := 249) (off := 217) hx hb dL_32 (by decide) (by decide) (by decide) (by decide) (law_drop X0 hk0 hn0 hL hi4 K676 A h H locs ls hJ hP hD hS hl)
          · exact lv_tableIn (tgt := 262) (off := 230) hx hb dL_32 (by decide) (by decide) (by decide) (by decide) (law_exchange X0 hk0 hn0 hL hi4 K676 A h H locs ls hJ hP hD hS hl)
          · exact lv_tableIn (tgt := 285) (off := 253) hx hb dL_32 (by decide) (by decide) (by decide) (by decide) (law_backwards X0 hk0 hn0 hL hi4 K676 A h H locs ls hJ hP hD hS hl)
          · exact lv_tableIn (tgt := 298) (off := 266) hx hb dL_32 (by decide) (by decide) (by decide) (by decide) (law_clear X0 hk0 hn0 hL hi4 K676 A h H locs ls hJ hP hD hS hl)
          · exact lv_tableIn (tgt := 311) (off := 279) hx hb dL_32 (by decide) (by decide) (by decide) (by decide) (law_undo X0 hk0 hn0 hL hi4 K676 A h H locs ls hJ hP hD hS hl)
          · exact lv_tableIn (tgt := 324) (off := 292) hx hb dL_32 (by decide) (by decide) (by decide) (by decide) (law_spelt X0 hk0 hn0 hL hi4 K676 A h H locs ls hJ hP hD hS hl)
          · exact lv_tableIn (tgt := 347) (off := 315) hx hb dL_32 (by decide) (by decide) (by decide) (by decide) (law_told X0 hk0 hn0 hL hi4 K676 A h H locs ls hJ hP hD hS hl)
          · exact lv_tableIn (tgt := 380) (off := 348) hx hb dL_32 (by decide) (by decide) (by decide) (by decide) (law_graph X0 hk0 hn0 hL hi4 K676 A h H locs ls hJ hP hD hS hl)
          · exact lv_tableIn (tgt := 413) (off := 381) hx hb dL_32 (by decide) (by decide) (by decide) (by decide) (law_piece X0 hk0 hn0 hL hi4 K676 A h H locs ls hJ hP hD hS hl)
          · exact lv_tableIn (tgt := 446) (off := 414) hx hb dL_32 (by decide) (by decide) (by decide) (by decide) (law_root X0 hk0 hn0 hL hi4 K676 A h H locs ls hJ hP hD hS hl)
          · exact lv_tableIn (tgt := 469) (off := 437) hx hb dL_32 (by decide) (by decide) (by decide) (by decide) (law_kin X0 hk0 hn0 hL hi4 K676 A h H locs ls hJ hP hD hS hl)
          · exact lv_tableIn (tgt := 502) (off := 470) hx hb dL_32 (by decide) (by decide) (by decide) (by decide) (law_bar X0 hk0 hn0 hL hi4 K676 A h H locs ls hJ hP hD hS hl)
          · exact lv_tableIn (tgt := 535) (off := 503) hx hb dL_32 (by decide) (by decide) (by decide) (by decide) (law_lasting X0 hk0 hn0 hL hi4 K676 A h H locs ls hJ hP hD hS hl)
          · exact lv_tableIn (tgt := 568) (off := 536) hx hb dL_32 (by decide) (by decide) (by decide) (by decide) (law_longer X0 hk0 hn0 hL hi4 K676 A h H locs ls hJ hP hD hS hl)
          · exact lv_tableIn (tgt := 591) (off := 559) hx hb dL_32 (by decide) (by decide) (by decide) (by decide) (law_steadiest X0 hk0 hn0 hL hi4 K676 A h H locs ls hJ hP hD hS hl)
          · exact lv_tableIn (tgt := 614) (off := 582) hx hb dL_32 (by decide) (by decide) (by decide) (by decide) (law_keep X0 hk0 hn0 hL hi4 K676 A h H locs ls hJ hP hD hS hl)
          · exact lv_tableIn (tgt := 627) (off := 595) hx hb dL_32 (by decide) (by decide) (by decide) (by decide) (law_other X0 hk0 hn0 hL hi4 K676 A h H locs ls hJ hP hD hS hl)
          · exact lv_tableIn (tgt := 640) (off := 608) hx hb dL_32 (by decide) (by decide) (by decide) (by decide) (law_back X0 hk0 hn0 hL hi4 K676 A h H locs ls hJ hP hD hS hl)
          · exact lv_tableIn (tgt := 653) (off := 621) hx hb dL_32 (by decide) (by decide) (by decide) (by decide) (law_count X0 hk0 hn0 hL hi4 K676 A h H locs ls hJ hP hD hS hl)
