/-! The abstract machine is right of the machine: a run of it is a contract. -/
def cz (ad : Nat → Nat) (v : Value) : Value := match v with
  | .ref k => .ref (ad k)
  | v => v
def cE (cy ad : Nat → Nat) (e : va_E) : va_E := match e with
  | .inl (t, n, .inr (.inr (.inr (.inr g)))) => .inl (cy t, n, .inr (.inr (.inr (.inr fun i => (g i).map ad))))
  | .inl (t, x) => .inl (cy t, x)
  | .inr (c, fs) => .inr (c, fs.map (cz ad))
def cW (cy ad : Nat → Nat) (h : mH) : va_W := h.mapIdx fun k e => (ad k, cE cy ad e)
def mty (cy : Nat → Nat) : List (ClassId × FieldType) := [(cy 0, .int), (cy 1, .byte), (cy 2, .object RX3)]
theorem cz_cat (ad : Nat → Nat) (v : Value) : (cz ad v).category = v.category := by cases v <;> rfl
theorem cW_at {cy ad : Nat → Nat} {h : mH} {k : Nat} {e : va_E} (hk : h[k]? = some e) : (cW cy ad h)[k]? = some (ad k, cE cy ad e) := by
  simp [cW, List.getElem?_mapIdx, hk]
theorem cW_set (cy ad : Nat → Nat) (h : mH) (k : Nat) (e : va_E) : (cW cy ad h).set k (ad k, cE cy ad e) = cW cy ad (h.set k e) := by
  apply List.ext_getElem?
  intro i
  simp only [cW, List.getElem?_mapIdx, List.getElem?_set, List.length_mapIdx]
  by_cases hki : k = i
  · subst hki
    by_cases hl : k < h.length <;> simp [hl]
  · simp [hki]
theorem cW_setO (cy ad : Nat → Nat) (h : mH) (a ci y : Nat) (fs : List Value) (v : Int32) : (cW cy ad h).set a (ad a, .inr (ci, (fs.map (cz ad)).set y (.int v))) = cW cy ad (h.set a (.inr (ci, fs.set y (.int v)))) := by
  rw [← cW_set]
  show _ = (cW cy ad h).set a (ad a, .inr (ci, (fs.set y (.int v)).map (cz ad)))
  rw [List.map_set]
  rfl
theorem cW_setQ (cy ad : Nat → Nat) (h : mH) (a t n i v : Nat) (g : Nat → Option Nat) : (cW cy ad h).set a (ad a, .inl (cy t, n, .inr (.inr (.inr (.inr (va_up (fun j => (g j).map ad) i (some (ad v)))))))) = cW cy ad (h.set a (.inl (t, n, .inr (.inr (.inr (.inr (va_up g i (some v)))))))) := by
  rw [← cW_set]
  have e : (va_up (fun j => (g j).map ad) i (some (ad v))) = fun j => (va_up g i (some v) j).map ad := by
    funext j
    unfold va_up
    by_cases hj : j = i <;> simp [hj]
  rw [e]
  rfl
theorem va_rf_map (ad : Nat → Nat) (r : Option Nat) : va_rf (r.map ad) = cz ad (va_rf r) := by cases r <;> rfl
/-- locals -/
def LV (ad : Nat → Nat) (ls : Array Slot) (nL : Nat) (lv : List Value) : Prop := ls.size = nL ∧ lv_wf ls ∧ lv.length = nL ∧ ∀ (i : Nat) (v : Value), lv[i]? = some v → v.category = 1 → ls[i]? = some (.val (cz ad v))
def prs (ad : Nat → Nat) (lv : List Value) : List (Nat × Value) := lv.zipIdx.filterMap fun q => if q.1.category = 1 then some (q.2, cz ad q.1) else none
theorem prs_mem {ad : Nat → Nat} {lv : List Value} {i : Nat} {v : Value} (h : lv[i]? = some v) (hv : v.category = 1) : (i, cz ad v) ∈ prs ad lv := by
  refine List.mem_filterMap.mpr ⟨(v, i), List.mem_zipIdx_iff_getElem?.mpr h, ?_⟩
  simp [hv]
theorem prs_mem' {ad : Nat → Nat} {lv : List Value} {q : Nat × Value} (h : q ∈ prs ad lv) : ∃ v, lv[q.1]? = some v ∧ v.category = 1 ∧ q.2 = cz ad v := by
  obtain ⟨⟨v, i⟩, h1, h2⟩ := List.mem_filterMap.mp h
  have h3 := List.mem_zipIdx_iff_getElem?.mp h1
  dsimp only at h2 h3
  split at h2
  next hc =>
    cases h2
    exact ⟨v, h3, hc, rfl⟩
  next => cases h2
theorem LV.has {ad : Nat → Nat} {ls : Array Slot} {nL : Nat} {lv : List Value} (h : LV ad ls nL lv) : lv_has ls nL (prs ad lv) := ⟨h.1, h.2.1, fun q hq => by
  obtain ⟨v, h1, h2, h3⟩ := prs_mem' hq
  rw [h3]
  exact h.2.2.2 _ _ h1 h2⟩
theorem LV.put {ad : Nat → Nat} {ls ls' : Array Slot} {nL i : Nat} {lv : List Value} {v w : Value} (h : LV ad ls nL lv) (hv : v.category = 1) (hw : w = cz ad v) (h' : lv_has ls' nL ((i, w) :: (prs ad lv).filter (fun q => !(q.1 == i) && !(q.1 + 1 == i && q.2.category == 2)))) : LV ad ls' nL (lv.set i v) := by
  subst hw
  refine ⟨h'.1, h'.2.1, by rw [List.length_set]; exact h.2.2.1, fun j u hj hu => ?_⟩
  rw [List.getElem?_set] at hj
  by_cases hij : i = j
  · subst hij
    simp only [if_true] at hj
    split at hj
    next =>
      cases hj
      exact h'.2.2 (i, cz ad v) List.mem_cons_self
    next => cases hj
  · rw [if_neg hij] at hj
    refine h'.2.2 (j, cz ad u) (List.mem_cons_of_mem _ (List.mem_filter.mpr ⟨prs_mem hj hu, ?_⟩))
    have e1 : (j == i) = false := by simp; exact fun q => hij q.symm
    have e2 : ((cz ad u).category == 2) = false := by rw [cz_cat, hu]; rfl
    simp [e1, e2]
theorem lv_args_mem : ∀ (vs : List Value) (k i : Nat) (v : Value), m_c1 vs = true → vs[i]? = some v → (k + i, v) ∈ lv_args k vs
  | [], _, i, v, _, h => by simp at h
  | w :: vs, k, 0, v, _, h => by
    simp only [List.getElem?_cons_zero, Option.some.injEq] at h
    subst h
    exact List.mem_cons_self
  | w :: vs, k, i + 1, v, hc, h => by
    simp only [List.getElem?_cons_succ] at h
    have hc' : Nat.beq w.category 1 = true ∧ m_c1 vs = true := by simpa [m_c1] using hc
    have hw : w.category = 1 := Nat.eq_of_beq_eq_true hc'.1
    have ih := lv_args_mem vs (k + 1) i v hc'.2 h
    show _ ∈ (k, w) :: lv_args (if w.category = 2 then k + 2 else k + 1) vs
    rw [if_neg (by rw [hw]; decide)]
    refine List.mem_cons_of_mem _ ?_
    have e : k + (i + 1) = k + 1 + i := by omega
    rw [e]
    exact ih
theorem m_c1_map (ad : Nat → Nat) (a : List Value) : m_c1 (a.map (cz ad)) = m_c1 a := by
  simp [m_c1, List.all_map, Function.comp_def, cz_cat]
theorem lg_sl_len : ∀ (vs : List Value), m_c1 vs = true → (lg_sl vs).length = vs.length
  | [], _ => rfl
  | w :: vs, hc => by
    have hc' : Nat.beq w.category 1 = true ∧ m_c1 vs = true := by simpa [m_c1] using hc
    have hw : w.category = 1 := Nat.eq_of_beq_eq_true hc'.1
    have ih := lg_sl_len vs hc'.2
    unfold lg_sl at ih ⊢
    simp [hw, ih]
theorem LV.entry {ad : Nat → Nat} {a : List Value} {n : Nat} (hc : m_c1 a = true) (hn : a.length ≤ n) : LV ad ((lg_sl (a.map (cz ad)) ++ List.replicate (n - (lg_sl (a.map (cz ad))).length) Slot.unset).toArray) n (a ++ List.replicate (n - a.length) (.long 0)) := by
  have hc2 : m_c1 (a.map (cz ad)) = true := by rw [m_c1_map]; exact hc
  have h := lv_entry (a.map (cz ad)) (n := n) (by rw [lg_sl_len _ hc2, List.length_map]; exact hn)
  refine ⟨h.1, h.2.1, by simp; omega, fun i v hi hv => ?_⟩
  rw [List.getElem?_append] at hi
  split at hi
  next hl =>
    have h1 : (a.map (cz ad))[i]? = some (cz ad v) := by rw [List.getElem?_map, hi]; rfl
    have h2 := lv_args_mem (a.map (cz ad)) 0 i _ hc2 h1
    rw [Nat.zero_add] at h2
    exact h.2.2 _ h2
  next =>
    have h1 := List.mem_of_getElem? hi
    rw [List.mem_replicate] at h1
    rw [h1.2] at hv
    cases hv
theorem m_p1_inv {st : List Value} {f : Int32 → List Value → Prop} (h : m_p1 st f) : ∃ a r, st = .int a :: r ∧ f a r := by
  unfold m_p1 at h; split at h
  · exact ⟨_, _, rfl, h⟩
  · exact h.elim
theorem m_p2_inv {st : List Value} {f : Int32 → Int32 → List Value → Prop} (h : m_p2 st f) : ∃ a b r, st = .int b :: .int a :: r ∧ f a b r := by
  unfold m_p2 at h; split at h
  · exact ⟨_, _, _, rfl, h⟩
  · exact h.elim
theorem m_pR_inv {st : List Value} {f : Nat → List Value → Prop} (h : m_pR st f) : ∃ a r, st = .ref a :: r ∧ f a r := by
  unfold m_pR at h; split at h
  · exact ⟨_, _, rfl, h⟩
  · exact h.elim
theorem m_pA_inv {st : List Value} {f : Value → List Value → Prop} (h : m_pA st f) : ∃ v r, st = v :: r ∧ (v = .null ∨ ∃ a, v = .ref a) ∧ f v r := by
  unfold m_pA at h; split at h
  · exact ⟨_, _, rfl, Or.inr ⟨_, rfl⟩, h⟩
  · exact ⟨_, _, rfl, Or.inl rfl, h⟩
  · exact h.elim
theorem m_pV_inv {st : List Value} {f : Value → List Value → Prop} (h : m_pV st f) : ∃ v r, st = v :: r ∧ v.category = 1 ∧ f v r := by
  unfold m_pV at h; split at h
  · exact ⟨_, _, rfl, h.1, h.2⟩
  · exact h.elim
theorem m_pVV_inv {st : List Value} {f : Value → Value → List Value → Prop} (h : m_pVV st f) : ∃ v w r, st = v :: w :: r ∧ v.category = 1 ∧ w.category = 1 ∧ f v w r := by
  unfold m_pVV at h; split at h
  · exact ⟨_, _, _, rfl, h.1, h.2.1, h.2.2⟩
  · exact h.elim
theorem m_lI_inv {lv : List Value} {j : Nat} {f : Int32 → Prop} (h : m_lI lv j f) : ∃ a, lv[j]? = some (.int a) ∧ f a := by
  unfold m_lI at h; split at h
  next hq => exact ⟨_, hq, h⟩
  next => exact h.elim
theorem m_lA_inv {lv : List Value} {j : Nat} {f : Value → Prop} (h : m_lA lv j f) : ∃ v, lv[j]? = some v ∧ (v = .null ∨ ∃ a, v = .ref a) ∧ f v := by
  unfold m_lA at h; split at h
  next hq => exact ⟨_, hq, Or.inr ⟨_, rfl⟩, h⟩
  next hq => exact ⟨_, hq, Or.inl rfl, h⟩
  next => exact h.elim
theorem m_gO_inv {h : mH} {a : Nat} {f : Nat → List Value → Prop} (hh : m_gO h a f) : ∃ ci fs, h[a]? = some (.inr (ci, fs)) ∧ f ci fs := by
  unfold m_gO at hh; split at hh
  next o hq => exact ⟨o.1, o.2, hq, hh⟩
  next => exact hh.elim
theorem m_gA_inv {h : mH} {a t : Nat} {f : Nat → (Nat → Int32) → Prop} (hh : m_gA h a t f) : ∃ n g, h[a]? = some (.inl (t, n, .inl g)) ∧ f n g := by
  unfold m_gA at hh; split at hh
  next hq => exact ⟨_, _, by rw [hq, hh.1], hh.2⟩
  next => exact hh.elim
theorem m_gQ_inv {h : mH} {a : Nat} {f : Nat → (Nat → Option Nat) → Prop} (hh : m_gQ h a f) : ∃ n g, h[a]? = some (.inl (2, n, .inr (.inr (.inr (.inr g))))) ∧ f n g := by
  unfold m_gQ at hh; split at hh
  next hq => exact ⟨_, _, by rw [hq, hh.1], hh.2⟩
  next => exact hh.elim
theorem m_gL_inv {h : mH} {a : Nat} {f : Nat → Prop} (hh : m_gL h a f) : ∃ t n x, h[a]? = some (.inl (t, n, x)) ∧ t < 3 ∧ f n := by
  unfold m_gL at hh; split at hh
  next hq => exact ⟨_, _, _, hq, hh.1, hh.2⟩
  next => exact hh.elim
/-- contracts -/
def mRm (d : Nat) : Room := { frames := d, cells := 0, slots := 0, locals := d * 30 }
def mPc (D : va_G) (cy ad : Nat → Nat) (a : List Value) (h : mH) (sz : Nat) : Array Value → State → Prop := va_Pc (a.map (cz ad)) (fun U => U.heap.size = sz ∧ va_P D mcl (cW cy ad h) U.heap ∧ va_K D mcl (mty cy) U ∧ va_D (fun _ => True) (cW cy ad h) ∧ mNw U)
def mQc (D : va_G) (cy ad : Nat → Nat) (h : mH) (sz : Nat) (Q : Option Value → mH → Prop) : Array Value → State → Outcome → State → Prop := fun _ st oc t =>
  (∃ (r : Option Value) (h' : mH), oc = .returned (r.map (cz ad)) ∧ Q r h' ∧ va_P D mcl (cW cy ad h') t.heap ∧ va_K D mcl (mty cy) t ∧ va_D (va_A (cW cy ad h) sz) (cW cy ad h')) ∧ va_F (va_A (cW cy ad h) sz) st t
def mMet (l : Launch) (P : List mM) (d : Nat) (D : va_G) (cy ad : Nat → Nat) (M : Nat) (a : List Value) (h : mH) (Q : Option Value → mH → Prop) : Prop :=
  ∀ (sz : Nat) (y : MethodName) (b : ByteArray) (mL : Nat) (rt : Option FieldType) (C : List (Nat × mE)), P[M]? = some (y, b, mL, rt, C) → Met l y (.code y b mL rt :: Tb) (mRm d) (mPc D cy ad a h sz) (mQc D cy ad h sz Q) 0 0 (va_A (cW cy ad h) sz)
theorem mPc_blind {D : va_G} {cy ad : Nat → Nat} {a : List Value} {h : mH} {sz : Nat} : FrameBlind (mPc D cy ad a h sz) := fun _ U _ _ q => by
  obtain ⟨q0, q1, qP, qK, qD, qN⟩ := q
  exact ⟨q0, q1, qP, va_K.moved (u := U) (Vm.Alike.refl U.vm) qK, qD, mNw.same (u := U) (show U.vm = _ from rfl) qN⟩
section MC
variable {p : Program} {l : Launch} {e : Env} {R : Room} {s : State} {m : MethodId} {args : Array Value} {below : List Frame} {meth : Method} {c : Code} {H : Heap} {locs : List Loc} {cells slots : Nat} {Q : State → Prop}
variable {pc : Nat} {ls : Array Slot} {rest st0 : List Value} {a : Array Value} {A0 A1 : Nat → Prop} {H0 : Heap} {mc ms : Nat} {free : Addr → Prop}
theorem va_callg {D : va_G} {cy ad : Nat → Nat} {h : mH} {sz : Nat} {P : Option Value → mH → Prop} (hr : va_Run p l e R s m args below meth c H locs cells slots mc ms (F0 m pc ls st0) rest (mQc D cy ad h sz P a) free) (hS : va_S A0 H0 H locs) (hA : ∀ q, q < H.size → va_A (cW cy ad h) sz q → A0 q) (hf : ∀ q, free q → A0 q)
    (kk : ∀ (r : Option Value) (h' : mH) (H1 : Heap) (locs1 : List Loc), P r h' → va_P D mcl (cW cy ad h') H1 → va_D (va_A (cW cy ad h) sz) (cW cy ad h') → va_S A0 H0 H1 locs1 → W p l e R s m args below meth c H1 locs1 (cells + mc) (slots + ms) Q (F0 m (pc + 3) ls ((r.map (cz ad)).toList ++ rest))) : W p l e R s m args below meth c H locs cells slots Q (F0 m pc ls st0) := by
  intro T hT X
  obtain ⟨v, st₀, t, T', L, h0, X', hL, e1, e2, ⟨⟨r, u, hv, hp, hb, hK, hD⟩, hz, hk⟩, st⟩ := hr T hT X
  cases hv
  rw [h0] at hz hk
  obtain ⟨t2, a1, b1⟩ := kk r u T'.heap (locs ++ L) hp (by rw [e1]; exact hb) hD
    ⟨Nat.le_trans hS.1 (by rw [e1]; exact hz), fun q h1 h2 => by rw [e1, hk q (Nat.lt_of_lt_of_le h1 hS.1) (fun z => h2 (hA q (Nat.lt_of_lt_of_le h1 hS.1) z))]; exact hS.2.1 q h1 h2, fun q hq => by
      rcases List.mem_append.mp hq with h | h
      · exact hS.2.2 q h
      · exact hf _ (hL q h)⟩ T' rfl X'
  exact ⟨t2, st t2 a1, b1⟩
end MC
