/-! Each instruction of the abstract machine, over the kit's rows. -/
def ilOK (i : Instr) (len : Nat) : Prop := match i with
  | .tableswitch _ _ _ _ => True
  | .lookupswitch _ _ => True
  | .bipush _ => len = 2
  | .ldc_w _ => len = 3
  | .iload _ => len = 2
  | .aload _ => len = 2
  | .istore _ => len = 2
  | .astore _ => len = 2
  | .sipush _ => len = 3
  | .iinc _ _ => len = 3
  | .getfield _ => len = 3
  | .putfield _ => len = 3
  | .goto _ => len = 3
  | .ifCond _ _ => len = 3
  | .if_icmp _ _ => len = 3
  | .ifnull _ => len = 3
  | .ifnonnull _ => len = 3
  | .invokestatic _ => len = 3
  | .invokevirtual _ => len = 3
  | _ => len = 1
def FOK (own : String) (idx x y : Nat) : Prop := ∃ (C : String) (T : u_T) (N : Nat), mcl[x]? = some (C, T, N) ∧ y < N ∧ (Cond.fieldLink own idx (T y).1 (T y).2.1 (T y).2.2.1 ∈ Tb ∨ ∃ host, Cond.fieldLinkNest own idx (T y).1 (T y).2.1 (T y).2.2.1 host ∈ Nb)
def FPK (own : String) (idx x y : Nat) : Prop := ∃ (C : String) (T : u_T) (N : Nat), mcl[x]? = some (C, T, N) ∧ y < N ∧ Cond.fieldLink own idx (T y).1 (T y).2.1 (T y).2.2.1 ∈ Tb ∧ (T y).2.2.2 = false ∧ parseFieldDescriptor (T y).2.2.1 = some .int
def SOK (P : List mM) (own : String) (idx x y : Nat) : Prop := ∃ (yn : MethodName) (b : ByteArray) (mL : Nat) (rt : Option FieldType) (C : List (Nat × mE)), P[x]? = some (yn, b, mL, rt, C) ∧ (parseMethodDescriptor yn.desc).map (fun d => d.parameters.length) = some y ∧ Cond.static yn ∈ Tb ∧ (Cond.methodLink own idx yn ∈ Tb ∨ ∃ host, Cond.methodLinkNest own idx yn host ∈ Nb)
def VOK (P : List mM) (own : String) (idx x y z : Nat) : Prop := ∃ (yn : MethodName) (b : ByteArray) (mL : Nat) (rt : Option FieldType) (C : List (Nat × mE)) (n : Nat), P[x]? = some (yn, b, mL, rt, C) ∧ y = n + 1 ∧ (parseMethodDescriptor yn.desc).map (fun d => d.parameters.length) = some n ∧ Cond.instanceMethod yn ∈ Tb ∧ Cond.selects yn.cls yn yn ∈ Tb ∧ (∃ (T : u_T) (N : Nat), mcl[z]? = some (yn.cls, T, N)) ∧ (Cond.methodLink own idx yn ∈ Tb ∨ ∃ host, Cond.methodLinkNest own idx yn host ∈ Nb)
def XOK (own : String) (idx : Nat) : Prop := Cond.methodLink own idx Lib.Math.max.name ∈ Tb ∧ Cond.static Lib.Math.max.name ∈ Tb ∧ Cond.initialized "java/lang/Math" ∈ Tb ∧ Cond.code Lib.Math.max.name Lib.Math.max.code 2 (some .int) ∈ Tb
def IOK (own : String) (idx : Nat) : Prop := Cond.methodLink own idx Lib.Math.min.name ∈ Tb ∧ Cond.static Lib.Math.min.name ∈ Tb ∧ Cond.initialized "java/lang/Math" ∈ Tb ∧ Cond.code Lib.Math.min.name Lib.Math.min.code 2 (some .int) ∈ Tb
def TOK (P : List mM) (own : String) (idx x y z : Nat) : Prop := match z with
  | 0 => SOK P own idx x y
  | 1 => XOK own idx
  | _ => IOK own idx
def lkOK (P : List mM) (own : String) (pc : Nat) (e : mE) : Prop := match e.1 with
  | .getfield idx => FOK own idx e.2.2.1 e.2.2.2.1
  | .putfield idx => FPK own idx e.2.2.1 e.2.2.2.1
  | .invokestatic idx => TOK P own idx e.2.2.1 e.2.2.2.1 e.2.2.2.2
  | .invokevirtual idx => VOK P own idx e.2.2.1 e.2.2.2.1 e.2.2.2.2
  | .ldc_w idx => Cond.constant own idx (nI e.2.2.1) ∈ Tb
  | .goto o => (pc : Int) + o = (e.2.2.1 : Int)
  | .ifCond _ o => (pc : Int) + o = (e.2.2.1 : Int)
  | .if_icmp _ o => (pc : Int) + o = (e.2.2.1 : Int)
  | .ifnull o => (pc : Int) + o = (e.2.2.1 : Int)
  | .ifnonnull o => (pc : Int) + o = (e.2.2.1 : Int)
  | .tableswitch d lo hi offs => 0 ≤ (pc : Int) + d ∧ hi - lo + 1 = (offs.size : Int) ∧ ∀ o ∈ offs.toList, 0 ≤ (pc : Int) + o
  | .lookupswitch d ps => 0 ≤ (pc : Int) + d ∧ (ps.toList.zip (ps.toList.drop 1)).all (fun (a, next) => a.1 < next.1) = true ∧ ∀ q ∈ ps.toList, 0 ≤ (pc : Int) + q.2
  | _ => True
def insOK (P : List mM) (own : String) (b : ByteArray) (pc : Nat) (e : mE) : Prop := (∃ len, decode b pc = .ok (e.1, len) ∧ e.2.1 = pc + len ∧ ilOK e.1 len) ∧ lkOK P own pc e
def mOK (P : List mM) (q : mM) : Prop := Cond.code q.1 q.2.1 q.2.2.1 q.2.2.2.1 ∈ Tb ∧ Cond.initialized q.1.cls ∈ Tb ∧ plainName q.1.cls = true ∧ q.1.cls ≠ "java/lang/invoke/MethodHandle" ∧ q.1.cls ≠ "java/lang/invoke/VarHandle" ∧ q.2.2.1 ≤ 11 ∧ ∀ z ∈ q.2.2.2.2, insOK P q.1.cls q.2.1 z.1 z.2
def POK (P : List mM) : Prop := ∀ q ∈ P, mOK P q
theorem lk_nonneg (ps : List (Int × Int)) (d k : Int) (pc : Int) (hd : 0 ≤ pc + d) (hp : ∀ q ∈ ps, 0 ≤ pc + q.2) : 0 ≤ pc + Op.lookupswitch.offset ps d k := by
  induction ps with
  | nil => exact hd
  | cons q r ih =>
    obtain ⟨a, o⟩ := q
    rw [Op.lookupswitch.offset_cons]
    split
    · exact hp (a, o) List.mem_cons_self
    · exact ih (fun q hq => hp q (List.mem_cons_of_mem _ hq))
section STEP
variable {p : Program} {l : Launch} {ev : Env} {R : Room} {s : State} {m : MethodId} {args : Array Value} {below : List Frame} {meth : Method} {c : Code}
variable {D : va_G} {cy ad : Nat → Nat} {A : Nat → Prop} {nL d : Nat} {bb : ByteArray} {own : String} {rt : Option FieldType} {P : List mM} {cal : mC} {Q : Option Value → mH → Prop} {Qc : Array Value → State → Outcome → State → Prop}
def mX (p : Program) (l : Launch) (ev : Env) (R : Room) (s : State) (m : MethodId) (args : Array Value) (below : List Frame) (meth : Method) (c : Code) (D : va_G) (cy ad : Nat → Nat) (A : Nat → Prop) (nL : Nat) (QQ : State → Prop) : mK := fun pc lv st h =>
  ∀ (H : Heap) (locs : List Loc) (ls : Array Slot), va_P D mcl (cW cy ad h) H → va_D A (cW cy ad h) → va_S A s.heap H locs → LV ad ls nL lv → W p l ev R s m args below meth c H locs 0 0 QQ (F0 m pc ls (st.map (cz ad)))
/-- a frame of a method: the machine, its code, the tables, its callees, its end -/
def mCtx (p : Program) (l : Launch) (R : Room) (s : State) (m : MethodId) (args : Array Value) (meth : Method) (c : Code) (D : va_G) (cy ad : Nat → Nat) (A : Nat → Prop) (nL d : Nat) (bb : ByteArray) (own : String) (rt : Option FieldType) (P : List mM) (cal : mC) (Q : Option Value → mH → Prop) (Qc : Array Value → State → Outcome → State → Prop) : Prop :=
  p.tables.exec = Jvm.exec ∧ c.code = bb ∧ c.maxLocals = nL ∧ meth.sig.returnType = rt ∧ s.vm.findClass own = some m.cls ∧ (∀ w ∈ Tb, w.before args s = true) ∧ meth.locks = false ∧ va_K D mcl (mty cy) s ∧ (∀ q, s.heap.size ≤ q → A q) ∧ R = mRm (d + 1) ∧ POK P ∧ mNw s ∧ (∀ M a h P', cal M a h P' → mMet l P d D cy ad M a h P') ∧
  ∀ (r : Option Value) (h : mH) (H : Heap) (locs : List Loc), Q r h → va_P D mcl (cW cy ad h) H → va_D A (cW cy ad h) → va_S A s.heap H locs → ∀ t : State, t.heap = H → s.WarmedH t.vm → Qc args s (.returned (r.map (cz ad))) t
theorem mty_at {cy : Nat → Nat} {t : Nat} (h : t < 3) : ∃ ty, (mty cy)[t]? = some (cy t, ty) := by
  rcases (show t = 0 ∨ t = 1 ∨ t = 2 by omega) with rfl | rfl | rfl
  · exact ⟨_, rfl⟩
  · exact ⟨_, rfl⟩
  · exact ⟨_, rfl⟩
theorem cE_len {cy ad : Nat → Nat} {t n : Nat} {x : (Nat → Int32) ⊕ (Nat → Int64) ⊕ (Nat → UInt32) ⊕ (Nat → UInt64) ⊕ (Nat → Option Nat)} : ∃ x', cE cy ad (.inl (t, n, x)) = .inl (cy t, n, x') := by
  rcases x with f | f | f | f | f <;> exact ⟨_, rfl⟩
theorem take_rev (st : List Value) (y : Nat) : st = ((st.take y).reverse).reverse ++ st.drop y := by rw [List.reverse_reverse, List.take_append_drop]
theorem cat_sum (ad : Nat → Nat) (st : List Value) : ((st.map (cz ad)).map fun v => v.category).sum = (st.map fun v => v.category).sum := by
  rw [List.map_map]
  congr 1
  apply List.map_congr_left
  intro v _
  exact cz_cat ad v
theorem mA_sub {h : mH} {H : Heap} {locs : List Loc} (hD : va_D A (cW cy ad h)) (hS : va_S A s.heap H locs) (hA : ∀ q, s.heap.size ≤ q → A q) : ∀ q, va_A (cW cy ad h) H.size q → A q := by
  intro q hq
  rcases hq with ⟨k, e, hk⟩ | hq
  · exact hD.2 k (q, e) hk
  · exact hA q (Nat.le_trans hS.1 hq)
theorem mPre {h : mH} {H : Heap} {a : List Value} (hP : va_P D mcl (cW cy ad h) H) (hD : va_D A (cW cy ad h)) (hK : va_K D mcl (mty cy) s) (hN : mNw s) : ∀ U : State, U.heap = H → s.WarmedH U.vm → mPc D cy ad a h H.size (a.map (cz ad)).toArray U :=
  fun U hU hW => ⟨rfl, by rw [hU], by rw [hU]; exact hP, va_K.moved hW.alike hK, hD.weaken (fun _ _ _ _ => trivial), mNw.warm hW hN⟩
theorem mGood {y : MethodName} {b : ByteArray} {mL : Nat} {r : Option FieldType} (h : Cond.code y b mL r ∈ Tb) : GoodIn Tb (.code y b mL r :: Tb) := fun w hw => by
  rcases List.mem_cons.mp hw with rfl | hw
  · exact ⟨h, Tb_good _ h⟩
  · exact ⟨hw, Tb_good _ hw⟩
theorem mRoom {mL d : Nat} (h : mL ≤ 11) : (mRm d).frames + 1 ≤ (mRm (d + 1)).frames ∧ 8 + (mL + 11) + (mRm d).locals ≤ (mRm (d + 1)).locals := by
  unfold mRm
  dsimp only
  omega
set_option maxHeartbeats 4000000 in
theorem snd_call_S (X : mCtx p l R s m args meth c D cy ad A nL d bb own rt P cal Q Qc) {QQ : State → Prop} {idx nx x y pc : Nat} {lv st : List Value} {h : mH} (hd : decode bb pc = .ok (.invokestatic idx, 3)) (hnx : nx = pc + 3) (hl : SOK P own idx x y)
    (hs : m_call (mX p l ev R s m args below meth c D cy ad A nL QQ) cal nx x y lv st h) : mX p l ev R s m args below meth c D cy ad A nL QQ pc lv st h := by
  obtain ⟨hx, hb, hml, hr, hown, hts, hlocks, hK, hA, hR, hPok, hN, hcal, hret⟩ := X
  obtain ⟨h1, h2, P', h3, h4⟩ := hs
  obtain ⟨yn, b, mL, rt', C, hM, hn, hst, hlink⟩ := hl
  obtain ⟨hcode, hini, hpl, hmh, hvh, hmL, -⟩ := hPok _ (List.mem_of_getElem? hM)
  intro H locs ls hP hD hS hL
  subst hR
  subst hnx
  have hmet := hcal _ _ _ _ h3 H.size yn b mL rt' C hM
  have hrun : va_Run p l ev (mRm (d + 1)) s m args below meth c H locs 0 0 0 0 (F0 m pc ls (st.map (cz ad))) ((st.drop y).map (cz ad)) (mQc D cy ad h H.size P' (((st.take y).reverse).map (cz ad)).toArray) (va_A (cW cy ad h) H.size) := by
    have hstk : st.map (cz ad) = (((st.take y).reverse).map (cz ad)).reverse ++ (st.drop y).map (cz ad) := by
      rw [← List.map_reverse, ← List.map_append, ← take_rev]
    have hlen : (((st.take y).reverse).map (cz ad)).length = y := by simp; omega
    rcases hlink with hlink | ⟨host, hlink⟩
    · exact va_runS (cc := bb) (nL := nL) (Ts := Tb) (own := own) (n := y) (bytes := b) (maxL := mL) (ret := rt') ⟨hx, hb, hml, hown, hts⟩ hmet ⟨callB_of y hts (mGood hcode) rfl rfl rfl (hts _ hini) (hts _ hlink) ⟨hmh, hvh, hn⟩ (mRoom hmL), hts _ hst⟩ ⟨mPc_blind, mPre hP hD hK hN⟩ rfl hlen hL.1 hstk (lv_room (by rw [cat_sum]; exact h2)) hd ⟨Nat.le_refl 0, Nat.le_refl 0⟩
    · exact va_runSN (cc := bb) (nL := nL) (Ts := Tb) (own := own) (n := y) (bytes := b) (maxL := mL) (ret := rt') ⟨hx, hb, hml, hown, hts⟩ hmet ⟨va_cnB y hts (mGood hcode) rfl rfl rfl (hN _ hlink) (hts _ hini) ⟨hmh, hvh, hn⟩ (mRoom hmL), hts _ hst, trivial⟩ ⟨mPc_blind, mPre hP hD hK hN⟩ rfl hlen hL.1 hstk (lv_room (by rw [cat_sum]; exact h2)) hd ⟨Nat.le_refl 0, Nat.le_refl 0⟩
  refine va_callg hrun hS (fun q _ hq => mA_sub hD hS hA q hq) (mA_sub hD hS hA) (fun r h' H1 locs1 hp hP1 hD1 hS1 => ?_)
  have w := h4 r h' hp H1 locs1 ls hP1 (hD1.weaken (fun _ q _ hq => mA_sub hD hS hA q.1 hq)) hS1 hL
  have e : (r.toList ++ st.drop y).map (cz ad) = (r.map (cz ad)).toList ++ (st.drop y).map (cz ad) := by
    cases r <;> simp
  rw [e] at w
  exact w
set_option maxHeartbeats 4000000 in
theorem snd_call_V (X : mCtx p l R s m args meth c D cy ad A nL d bb own rt P cal Q Qc) {QQ : State → Prop} {idx nx x y z pc : Nat} {lv st : List Value} {h : mH} (hd : decode bb pc = .ok (.invokevirtual idx, 3)) (hnx : nx = pc + 3) (hl : VOK P own idx x y z)
    (hb0 : ∃ (b : Nat) (As : List Value), (st.take y).reverse = .ref b :: As ∧ m_gO h b fun ci _ => ci = z) (hs : m_call (mX p l ev R s m args below meth c D cy ad A nL QQ) cal nx x y lv st h) : mX p l ev R s m args below meth c D cy ad A nL QQ pc lv st h := by
  obtain ⟨hx, hb, hml, hr, hown, hts, hlocks, hK, hA, hR, hPok, hN, hcal, hret⟩ := X
  obtain ⟨h1, h2, P', h3, h4⟩ := hs
  obtain ⟨yn, b, mL, rt', C, n, hM, hy, hn, hinst, hsel, ⟨T, N, hz⟩, hlink⟩ := hl
  obtain ⟨hcode, hini, hpl, hmh, hvh, hmL, -⟩ := hPok _ (List.mem_of_getElem? hM)
  obtain ⟨o, As, hAs, ho⟩ := hb0
  obtain ⟨ci, fs, ho2, hci⟩ := m_gO_inv ho
  subst hci
  intro H locs ls hP hD hS hL
  subst hR
  subst hnx
  have hmet := hcal _ _ _ _ h3 H.size yn b mL rt' C hM
  have hlen0 : ((st.take y).reverse).length = y := by simp; omega
  have hrecv := va_recv hK hP (ci := ci) (q0 := o) hz (cW_at ho2)
  have hrun : va_Run p l ev (mRm (d + 1)) s m args below meth c H locs 0 0 0 0 (F0 m pc ls (st.map (cz ad))) ((st.drop y).map (cz ad)) (mQc D cy ad h H.size P' (((st.take y).reverse).map (cz ad)).toArray) (va_A (cW cy ad h) H.size) := by
    have hstk : st.map (cz ad) = (As.map (cz ad)).reverse ++ .ref (ad o) :: (st.drop y).map (cz ad) := by
      have e1 : st.map (cz ad) = (((st.take y).reverse).map (cz ad)).reverse ++ (st.drop y).map (cz ad) := by
        rw [← List.map_reverse, ← List.map_append, ← take_rev]
      rw [e1, hAs]
      simp [cz]
    have hlen : (As.map (cz ad)).length = n := by
      rw [hAs, hy] at hlen0
      simpa using hlen0
    rw [hAs] at hmet ⊢
    rcases hlink with hlink | ⟨host, hlink⟩
    · exact va_runV (cc := bb) (nL := nL) (Ts := Tb) (own := own) (C := yn.cls) (n := n) (bytes := b) (maxL := mL) (ret := rt') (As := As.map (cz ad)) ⟨hx, hb, hml, hown, hts⟩ hmet ⟨callB_of n hts (mGood hcode) rfl rfl rfl (hts _ hini) (hts _ hlink) ⟨hmh, hvh, hn⟩ (mRoom hmL), hts _ hinst, hts _ hsel⟩ ⟨mPc_blind, hrecv, mPre (a := .ref o :: As) hP hD hK hN⟩ rfl hlen hL.1 hstk (lv_room (by rw [cat_sum]; exact h2)) hd ⟨Nat.le_refl 0, Nat.le_refl 0⟩
    · exact va_runVN (cc := bb) (nL := nL) (Ts := Tb) (own := own) (C := yn.cls) (n := n) (bytes := b) (maxL := mL) (ret := rt') (As := As.map (cz ad)) ⟨hx, hb, hml, hown, hts⟩ hmet ⟨va_cnB n hts (mGood hcode) rfl rfl rfl (hN _ hlink) (hts _ hini) ⟨hmh, hvh, hn⟩ (mRoom hmL), hts _ hinst, hts _ hsel⟩ ⟨mPc_blind, hrecv, mPre (a := .ref o :: As) hP hD hK hN⟩ rfl hlen hL.1 hstk (lv_room (by rw [cat_sum]; exact h2)) hd ⟨Nat.le_refl 0, Nat.le_refl 0⟩
  refine va_callg hrun hS (fun q _ hq => mA_sub hD hS hA q hq) (mA_sub hD hS hA) (fun r h' H1 locs1 hp hP1 hD1 hS1 => ?_)
  have w := h4 r h' hp H1 locs1 ls hP1 (hD1.weaken (fun _ q _ hq => mA_sub hD hS hA q.1 hq)) hS1 hL
  have e : (r.toList ++ st.drop y).map (cz ad) = (r.map (cz ad)).toList ++ (st.drop y).map (cz ad) := by
    cases r <;> simp
  rw [e] at w
  exact w
end STEP
