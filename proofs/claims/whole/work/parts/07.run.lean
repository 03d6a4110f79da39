theorem hs_room (ws : List Cond) (rm : Room) : (headSpec ws rm).room = rm := rfl
set_option maxHeartbeats 400000 in
theorem snd_one {l : Launch} {P : List mM} (hPok : POK P) (d : Nat) (D : va_G) (cy ad : Nat → Nat) (hcal : ∀ (M : Nat) (a : List Value) (h : mH) (Q : Option Value → mH → Prop), Rn P d M a h Q → mMet l P d D cy ad M a h Q)
    (TT : List Cond) (hTT : TT = Tb) (a : List Value) (h : mH) (Q : Option Value → mH → Prop) (sz : Nat) (y : MethodName) (b : ByteArray) (mL : Nat) (rt : Option FieldType) (C : List (Nat × mE)) (hq : mOK P (y, b, mL, rt, C)) (hc : m_c1 a = true) (hlen : a.length ≤ mL) (hw : WP (Rn P d) C rt Q 0 (a ++ List.replicate (mL - a.length) (.long 0)) [] h) :
    Met l y (.code y b mL rt :: TT) (mRm (d + 1)) (mPc D cy ad a h sz) (mQc D cy ad h sz Q) 0 0 (va_A (cW cy ad h) sz) := by
  obtain ⟨hcode, hini, hpl, hmh, hvh, hmL, hins⟩ := hq
  dsimp only at hcode hini hpl hmh hvh hmL hins
  refine Met.ofW (cc := b) (maxL := mL) (ret := rt) hpl rfl ?_
  intro p e s m args below meth c s₁ B hml hv
  obtain ⟨rfl, hsz, hP, hK, hD0, hN⟩ := hv
  have hts0 := atoms_spec (ws := .code y b mL rt :: TT) B.pre
  have hts : ∀ w ∈ Tb, w.before (a.map (cz ad)).toArray s = true := fun w hw => hts0 w (List.mem_cons_of_mem _ (by rw [hTT]; exact hw))
  have hown : s.vm.findClass y.cls = some m.cls := findClass_of_methodNamed B.named
  subst hsz
  have hD := hD0.self (sz := s.heap.size)
  rw [lg_entry_eq, hs_room]
  refine hw (mX p l e (mRm (d + 1)) s m (a.map (cz ad)).toArray below meth c D cy ad (va_A (cW cy ad h) s.heap.size) mL (MQ below (mQc D cy ad h s.heap.size Q) (a.map (cz ad)).toArray s 0 0 (va_A (cW cy ad h) s.heap.size))) ?_ s.heap [] _ hP hD va_S.rf (LV.entry hc hlen)
  intro pc lv st h2 e2 hf hs
  have hret : ∀ (r : Option Value) (h3 : mH) (H : Heap) (locs : List Loc), Q r h3 → va_P D mcl (cW cy ad h3) H → va_D (va_A (cW cy ad h) s.heap.size) (cW cy ad h3) → va_S (va_A (cW cy ad h) s.heap.size) s.heap H locs → ∀ t : State, t.heap = H → s.WarmedH t.vm → mQc D cy ad h s.heap.size Q (a.map (cz ad)).toArray s (.returned (r.map (cz ad))) t := by
    intro r h3 H locs hq hP3 hD3 hS3 t ht hW
    exact ⟨⟨r, h3, rfl, hq, by rw [ht]; exact hP3, va_K.moved hW.alike hK, hD3⟩, hS3.F ht⟩
  have X : mCtx p l (mRm (d + 1)) s m (a.map (cz ad)).toArray meth c D cy ad (va_A (cW cy ad h) s.heap.size) mL d b y.cls rt P (Rn P d) Q (mQc D cy ad h s.heap.size Q) := by
    unfold mCtx
    exact ⟨B.exec, B.bytes, hml, B.returns, hown, hts, B.notSynchronized, hK, fun q hq => Or.inr hq, rfl, hPok, hN, hcal, hret⟩
  exact snd_step X (hins (pc, e2) (mfetch_mem hf)) hs
set_option maxHeartbeats 400000 in
/-- SOUND: a run of the abstract machine is a contract of the machine -/
theorem snd_run {l : Launch} {P : List mM} (hPok : POK P) (D : va_G) (cy ad : Nat → Nat) (d : Nat) : ∀ (M : Nat) (a : List Value) (h : mH) (Q : Option Value → mH → Prop), Rn P d M a h Q → mMet l P d D cy ad M a h Q := by
  induction d with
  | zero =>
    intro M a h Q hr
    exact hr.elim
  | succ d ih =>
    intro M a h Q hr sz y b mL rt C hM
    unfold Rn at hr
    rw [hM] at hr
    exact snd_one hPok d D cy ad ih Tb rfl a h Q sz y b mL rt C (hPok _ (List.mem_of_getElem? hM)) hr.1 (Nat.le_of_ble_eq_true hr.2.1) hr.2.2
