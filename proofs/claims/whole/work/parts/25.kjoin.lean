/-! Kinship: join -/
theorem pw_f {i : Nat} {c : Nat → Bool} {v g : Nat → Nat} (h : c i = false) : pw i c v g = pw (i + 1) c v g := by
  funext q
  unfold pw
  have e : (q < i ∧ c q = true) ↔ (q < i + 1 ∧ c q = true) := by
    constructor
    · exact fun z => ⟨by omega, z.2⟩
    · intro z
      refine ⟨?_, z.2⟩
      rcases Nat.lt_or_eq_of_le (Nat.le_of_lt_succ z.1) with r | r
      · exact r
      · have z2 := z.2
        rw [r, h] at z2
        cases z2
  simp only [e]
theorem pw_in {i q : Nat} {c : Nat → Bool} {v g : Nat → Nat} (h : q < i) (hc : c q = true) : pw i c v g q = v q := by
  unfold pw
  rw [if_pos ⟨h, hc⟩]
def lR (J : Nat) (wf ws : Nat → Nat) (p : Nat) : Bool := J.testBit p || Nat.blt 0 (wf p) || Nat.blt 0 (ws p)
theorem lR_iff {J p : Nat} {wf ws : Nat → Nat} : lR J wf ws p = true ↔ J.testBit p = true ∨ 0 < wf p ∨ 0 < ws p := by
  unfold lR
  rw [Bool.or_eq_true, Bool.or_eq_true, nblt, nblt, or_assoc]
theorem lR_f {J p : Nat} {wf ws : Nat → Nat} (h : ¬ (J.testBit p = true ∨ 0 < wf p ∨ 0 < ws p)) : lR J wf ws p = false := by
  cases e : lR J wf ws p
  · rfl
  · exact absurd (lR_iff.mp e) h
theorem l_Kin_low {d b : Nat} {pre suf : mH} {rt : Nat → Nat} {sc : Nat → Nat → Nat} {wf : Nat → Nat} {ws : Nat → Nat} {Q : Option Value → mH → Prop} (hb : pre.length = b) {ro J : Nat} (hJ : J < 512) (hw : ∀ p, p < 9 → wf p < 1000 ∧ ws p < 1000) (hQ : Q none (kW b pre (pw 9 (lR J wf ws) (fun _ => ro) rt) sc wf ws suf)) : ∀ (n i : Nat), i + n = 9 → WP (Rn mprog (d + 1)) k_Kin_lowerRoots none Q 2 [.ref b, .int (nI ro), .int (nI J), .int (nI i)] [] (kW b pre (pw i (lR J wf ws) (fun _ => ro) rt) sc wf ws suf) := by
  intro n
  induction n with
  | zero =>
    intro i hi
    have e : i = 9 := by omega
    subst e
    refine wq_iload_n rfl rfl ?_
    refine wq_bipush (v := nI 9) rfl (by decide) ?_
    refine wq_ic_ge rfl (fun _ => ?_) (fun c => absurd c (by decide))
    refine wq_vret rfl rfl ?_
    exact hQ
  | succ n ih =>
    intro i hi
    have hwi := hw i (by omega)
    refine wq_iload_n rfl rfl ?_
    refine wq_bipush (v := nI 9) rfl (by decide) ?_
    refine wn_ic_ge rfl (by omega) (by omega) (fun c5 => absurd c5 (by omega)) (fun c5 => ?_)
    refine wq_iload_n rfl rfl ?_
    refine wq_iload_n rfl rfl ?_
    refine wq_stat (a := [.int (nI J), .int (nI i)]) (rest := []) rfl rfl rfl rfl rfl ?_
    refine r_Z_isIn (by omega) (by omega) (fun c10 => ?_) (fun c10 => ?_)
    · skip
      show WP _ _ _ _ 13 [.ref b, .int (nI ro), .int (nI J), .int (nI i)] [.int (nI 1)] (kW b pre (pw i (lR J wf ws) (fun _ => ro) rt) sc wf ws suf)
      refine wq_if_ne rfl (fun _ => ?_) (fun c => absurd c (by decide))
      refine wq_aload_n rfl rfl ?_
      refine wq_getfield (v := .ref (b + 1)) rfl (kW_o0 hb) rfl ?_
      refine wq_iload_n rfl rfl ?_
      refine wq_iload_n rfl rfl ?_
      refine wn_iastore (g := (pw i (lR J wf ws) (fun _ => ro) rt)) (h' := kW b pre (uN' ((pw i (lR J wf ws) (fun _ => ro) rt)) i ro) sc wf ws suf) rfl (kW_a1 hb) (by omega) (by decide) (kW_t1 hb) ?_
      refine wn_inc (lv' := [.ref b, .int (nI ro), .int (nI J), .int (nI (i + 1))]) rfl rfl rfl ?_
      refine wq_goto rfl ?_
      have hR : lR J wf ws i = true := lR_iff.mpr (Or.inl c10)
      rw [pw_s (by rw [hR]; rfl)]
      exact ih (i + 1) (by omega)
    · skip
      show WP _ _ _ _ 13 [.ref b, .int (nI ro), .int (nI J), .int (nI i)] [.int (nI 0)] (kW b pre (pw i (lR J wf ws) (fun _ => ro) rt) sc wf ws suf)
      refine wq_if_ne rfl (fun c => absurd c (by decide)) (fun _ => ?_)
      refine wq_aload_n rfl rfl ?_
      refine wq_getfield (v := .ref (b + 3)) rfl (kW_o0 hb) rfl ?_
      refine wq_iload_n rfl rfl ?_
      refine wn_iaload (g := wf) rfl (kW_a3 hb) (by omega) (by decide) ?_
      refine wn_if_gt rfl (by omega) (fun c22 => ?_) (fun c22 => ?_)
      · skip
        refine wq_aload_n rfl rfl ?_
        refine wq_getfield (v := .ref (b + 1)) rfl (kW_o0 hb) rfl ?_
        refine wq_iload_n rfl rfl ?_
        refine wq_iload_n rfl rfl ?_
        refine wn_iastore (g := (pw i (lR J wf ws) (fun _ => ro) rt)) (h' := kW b pre (uN' ((pw i (lR J wf ws) (fun _ => ro) rt)) i ro) sc wf ws suf) rfl (kW_a1 hb) (by omega) (by decide) (kW_t1 hb) ?_
        refine wn_inc (lv' := [.ref b, .int (nI ro), .int (nI J), .int (nI (i + 1))]) rfl rfl rfl ?_
        refine wq_goto rfl ?_
        have hR : lR J wf ws i = true := lR_iff.mpr (Or.inr (Or.inl c22))
        rw [pw_s (by rw [hR]; rfl)]
        exact ih (i + 1) (by omega)
      · skip
        refine wq_aload_n rfl rfl ?_
        refine wq_getfield (v := .ref (b + 4)) rfl (kW_o0 hb) rfl ?_
        refine wq_iload_n rfl rfl ?_
        refine wn_iaload (g := ws) rfl (kW_a4 hb) (by omega) (by decide) ?_
        refine wn_if_le rfl (by omega) (fun c31 => ?_) (fun c31 => ?_)
        · skip
          refine wn_inc (lv' := [.ref b, .int (nI ro), .int (nI J), .int (nI (i + 1))]) rfl rfl rfl ?_
          refine wq_goto rfl ?_
          have hR : lR J wf ws i = false := lR_f (by rw [c10]; simp [c22, c31])
          rw [pw_f (i := i) hR]
          exact ih (i + 1) (by omega)
        · skip
          refine wq_aload_n rfl rfl ?_
          refine wq_getfield (v := .ref (b + 1)) rfl (kW_o0 hb) rfl ?_
          refine wq_iload_n rfl rfl ?_
          refine wq_iload_n rfl rfl ?_
          refine wn_iastore (g := (pw i (lR J wf ws) (fun _ => ro) rt)) (h' := kW b pre (uN' ((pw i (lR J wf ws) (fun _ => ro) rt)) i ro) sc wf ws suf) rfl (kW_a1 hb) (by omega) (by decide) (kW_t1 hb) ?_
          refine wn_inc (lv' := [.ref b, .int (nI ro), .int (nI J), .int (nI (i + 1))]) rfl rfl rfl ?_
          refine wq_goto rfl ?_
          have hR : lR J wf ws i = true := lR_iff.mpr (Or.inr (Or.inr c31))
          rw [pw_s (by rw [hR]; rfl)]
          exact ih (i + 1) (by omega)
theorem r_Kin_low {d b : Nat} {pre suf : mH} {rt : Nat → Nat} {sc : Nat → Nat → Nat} {wf : Nat → Nat} {ws : Nat → Nat} {Q : Option Value → mH → Prop} (hb : pre.length = b) {ro J : Nat} (hJ : J < 512) (hw : ∀ p, p < 9 → wf p < 1000 ∧ ws p < 1000) (hQ : Q none (kW b pre (pw 9 (lR J wf ws) (fun _ => ro) rt) sc wf ws suf)) : Rn mprog (d + 2) n_Kin_lowerRoots [.ref b, .int (nI ro), .int (nI J)] (kW b pre rt sc wf ws suf) Q := by
  refine Rn.in rfl rfl rfl ?_
  show WP _ _ _ _ 0 [.ref b, .int (nI ro), .int (nI J), .long 0] [] (kW b pre rt sc wf ws suf)
  refine wq_iconst (v := nI 0) rfl (by decide) ?_
  refine wq_istore_n (lv' := [.ref b, .int (nI ro), .int (nI J), .int (nI 0)]) rfl rfl rfl ?_
  have q := l_Kin_low (d := d) hb hJ hw hQ 9 0 rfl
  rw [pw_0] at q
  exact q
def wv (J : Nat) (r : Nat → Nat) : Nat → Nat := fun p => if J.testBit p = true then 0 else r p
theorem l_Kin_join1 {d b : Nat} {pre suf : mH} {rt : Nat → Nat} {sc : Nat → Nat → Nat} {wf : Nat → Nat} {ws : Nat → Nat} {Q : Option Value → mH → Prop} (hb : pre.length = b) {a bb J met : Nat} (ha : a < 9) (hbb : bb < 9) (hJ : J < 512) (k : ∀ jv : Value, WP (Rn mprog (d + 2)) k_Kin_join none Q 78 [.ref b, .int (nI a), .int (nI bb), .int (nI J), .int (nI met), .int (nI 9), jv] [] (kW b pre rt sc (pw 9 (fun _ => true) (wv J (sc a)) wf) (pw 9 (fun _ => true) (wv J (sc bb)) ws) suf)) : ∀ (n i : Nat), i + n = 9 → ∀ jv : Value, WP (Rn mprog (d + 2)) k_Kin_join none Q 11 [.ref b, .int (nI a), .int (nI bb), .int (nI J), .int (nI met), .int (nI i), jv] [] (kW b pre rt sc (pw i (fun _ => true) (wv J (sc a)) wf) (pw i (fun _ => true) (wv J (sc bb)) ws) suf) := by
  intro n
  induction n with
  | zero =>
    intro i hi jv
    have e : i = 9 := by omega
    subst e
    refine wq_iload rfl rfl ?_
    refine wq_bipush (v := nI 9) rfl (by decide) ?_
    refine wq_ic_ge rfl (fun _ => ?_) (fun c => absurd c (by decide))
    exact k _
  | succ n ih =>
    intro i hi jv
    refine wq_iload rfl rfl ?_
    refine wq_bipush (v := nI 9) rfl (by decide) ?_
    refine wn_ic_ge rfl (by omega) (by omega) (fun c15 => absurd c15 (by omega)) (fun c15 => ?_)
    refine wq_aload_n rfl rfl ?_
    refine wq_getfield (v := .ref (b + 3)) rfl (kW_o0 hb) rfl ?_
    refine wq_iload rfl rfl ?_
    refine wq_iload_n rfl rfl ?_
    refine wq_iload rfl rfl ?_
    refine wq_stat (a := [.int (nI J), .int (nI i)]) (rest := [.int (nI i), .ref (b + 3)]) rfl rfl rfl rfl rfl ?_
    refine r_Z_isIn (by omega) (by omega) (fun c27 => ?_) (fun c27 => ?_)
    · skip
      show WP _ _ _ _ 30 [.ref b, .int (nI a), .int (nI bb), .int (nI J), .int (nI met), .int (nI i), jv] [.int (nI 1), .int (nI i), .ref (b + 3)] (kW b pre rt sc (pw i (fun _ => true) (wv J (sc a)) wf) (pw i (fun _ => true) (wv J (sc bb)) ws) suf)
      refine wq_if_eq rfl (fun c => absurd c (by decide)) (fun _ => ?_)
      refine wq_iconst (v := nI 0) rfl (by decide) ?_
      refine wq_goto rfl ?_
      refine wn_iastore (g := (pw i (fun _ => true) (wv J (sc a)) wf)) (h' := kW b pre rt sc (uN' ((pw i (fun _ => true) (wv J (sc a)) wf)) i 0) (pw i (fun _ => true) (wv J (sc bb)) ws) suf) rfl (kW_a3 hb) (by omega) (by decide) (kW_t3 hb) ?_
      refine wq_aload_n rfl rfl ?_
      refine wq_getfield (v := .ref (b + 4)) rfl (kW_o0 hb) rfl ?_
      refine wq_iload rfl rfl ?_
      refine wq_iload_n rfl rfl ?_
      refine wq_iload rfl rfl ?_
      refine wq_stat (a := [.int (nI J), .int (nI i)]) (rest := [.int (nI i), .ref (b + 4)]) rfl rfl rfl rfl rfl ?_
      refine r_Z_isIn (by omega) (by omega) (fun c54 => ?_) (fun c54 => absurd c54 (by rw [c27]; decide))
      show WP _ _ _ _ 57 [.ref b, .int (nI a), .int (nI bb), .int (nI J), .int (nI met), .int (nI i), jv] [.int (nI 1), .int (nI i), .ref (b + 4)] (kW b pre rt sc (uN' ((pw i (fun _ => true) (wv J (sc a)) wf)) i 0) (pw i (fun _ => true) (wv J (sc bb)) ws) suf)
      refine wq_if_eq rfl (fun c => absurd c (by decide)) (fun _ => ?_)
      refine wq_iconst (v := nI 0) rfl (by decide) ?_
      refine wq_goto rfl ?_
      refine wn_iastore (g := (pw i (fun _ => true) (wv J (sc bb)) ws)) (h' := kW b pre rt sc (uN' ((pw i (fun _ => true) (wv J (sc a)) wf)) i 0) (uN' ((pw i (fun _ => true) (wv J (sc bb)) ws)) i 0) suf) rfl (kW_a4 hb) (by omega) (by decide) (kW_t4 hb) ?_
      refine wn_inc (lv' := [.ref b, .int (nI a), .int (nI bb), .int (nI J), .int (nI met), .int (nI (i + 1)), jv]) rfl rfl rfl ?_
      refine wq_goto rfl ?_
      rw [pw_s (v := wv J (sc a)) (by unfold wv; rw [c27]; rfl), pw_s (v := wv J (sc bb)) (by unfold wv; rw [c27]; rfl)]
      exact ih (i + 1) (by omega) jv
    · skip
      show WP _ _ _ _ 30 [.ref b, .int (nI a), .int (nI bb), .int (nI J), .int (nI met), .int (nI i), jv] [.int (nI 0), .int (nI i), .ref (b + 3)] (kW b pre rt sc (pw i (fun _ => true) (wv J (sc a)) wf) (pw i (fun _ => true) (wv J (sc bb)) ws) suf)
      refine wq_if_eq rfl (fun _ => ?_) (fun c => absurd c (by decide))
      refine wq_aload_n rfl rfl ?_
      refine wq_iload_n rfl rfl ?_
      refine wq_iload rfl rfl ?_
      refine wq_virt (b := b) (a := [.int (nI a), .int (nI i)]) (rest := [.int (nI i), .ref (b + 3)]) rfl rfl rfl rfl rfl (kW_o0 hb) ?_
      refine r_Kin_sinceOf hb (by omega) (by omega) ?_
      show WP _ _ _ _ 44 [.ref b, .int (nI a), .int (nI bb), .int (nI J), .int (nI met), .int (nI i), jv] [.int (nI (sc a i)), .int (nI i), .ref (b + 3)] (kW b pre rt sc (pw i (fun _ => true) (wv J (sc a)) wf) (pw i (fun _ => true) (wv J (sc bb)) ws) suf)
      refine wn_iastore (g := (pw i (fun _ => true) (wv J (sc a)) wf)) (h' := kW b pre rt sc (uN' ((pw i (fun _ => true) (wv J (sc a)) wf)) i (sc a i)) (pw i (fun _ => true) (wv J (sc bb)) ws) suf) rfl (kW_a3 hb) (by omega) (by decide) (kW_t3 hb) ?_
      refine wq_aload_n rfl rfl ?_
      refine wq_getfield (v := .ref (b + 4)) rfl (kW_o0 hb) rfl ?_
      refine wq_iload rfl rfl ?_
      refine wq_iload_n rfl rfl ?_
      refine wq_iload rfl rfl ?_
      refine wq_stat (a := [.int (nI J), .int (nI i)]) (rest := [.int (nI i), .ref (b + 4)]) rfl rfl rfl rfl rfl ?_
      refine r_Z_isIn (by omega) (by omega) (fun c54 => absurd c54 (by rw [c27]; decide)) (fun c54 => ?_)
      show WP _ _ _ _ 57 [.ref b, .int (nI a), .int (nI bb), .int (nI J), .int (nI met), .int (nI i), jv] [.int (nI 0), .int (nI i), .ref (b + 4)] (kW b pre rt sc (uN' ((pw i (fun _ => true) (wv J (sc a)) wf)) i (sc a i)) (pw i (fun _ => true) (wv J (sc bb)) ws) suf)
      refine wq_if_eq rfl (fun _ => ?_) (fun c => absurd c (by decide))
      refine wq_aload_n rfl rfl ?_
      refine wq_iload_n rfl rfl ?_
      refine wq_iload rfl rfl ?_
      refine wq_virt (b := b) (a := [.int (nI bb), .int (nI i)]) (rest := [.int (nI i), .ref (b + 4)]) rfl rfl rfl rfl rfl (kW_o0 hb) ?_
      refine r_Kin_sinceOf hb (by omega) (by omega) ?_
      show WP _ _ _ _ 71 [.ref b, .int (nI a), .int (nI bb), .int (nI J), .int (nI met), .int (nI i), jv] [.int (nI (sc bb i)), .int (nI i), .ref (b + 4)] (kW b pre rt sc (uN' ((pw i (fun _ => true) (wv J (sc a)) wf)) i (sc a i)) (pw i (fun _ => true) (wv J (sc bb)) ws) suf)
      refine wn_iastore (g := (pw i (fun _ => true) (wv J (sc bb)) ws)) (h' := kW b pre rt sc (uN' ((pw i (fun _ => true) (wv J (sc a)) wf)) i (sc a i)) (uN' ((pw i (fun _ => true) (wv J (sc bb)) ws)) i (sc bb i)) suf) rfl (kW_a4 hb) (by omega) (by decide) (kW_t4 hb) ?_
      refine wn_inc (lv' := [.ref b, .int (nI a), .int (nI bb), .int (nI J), .int (nI met), .int (nI (i + 1)), jv]) rfl rfl rfl ?_
      refine wq_goto rfl ?_
      rw [pw_s (v := wv J (sc a)) (by unfold wv; rw [c27]; rfl), pw_s (v := wv J (sc bb)) (by unfold wv; rw [c27]; rfl)]
      exact ih (i + 1) (by omega) jv
def sj (met J : Nat) (wf ws : Nat → Nat) (sc : Nat → Nat → Nat) (i : Nat) : Nat → Nat → Nat := fun x y =>
  if J.testBit y = true ∧ x < i then max (wf x) (ws x) else if J.testBit x = true ∧ y < i then max (wf y) (ws y)
  else if met < wf x ∧ met < ws y ∧ x < i ∧ y < 9 then min (wf x) (ws y) else if met < wf y ∧ met < ws x ∧ y < i ∧ x < 9 then min (wf y) (ws x) else sc x y
def si (met J : Nat) (wf ws : Nat → Nat) (sc : Nat → Nat → Nat) (i j : Nat) : Nat → Nat → Nat := fun x y =>
  if J.testBit y = true ∧ x < i + 1 then max (wf x) (ws x) else if J.testBit x = true ∧ y < i + 1 then max (wf y) (ws y)
  else if met < wf x ∧ met < ws y ∧ (x < i ∨ (x = i ∧ y < j)) ∧ y < 9 then min (wf x) (ws y) else if met < wf y ∧ met < ws x ∧ (y < i ∨ (y = i ∧ x < j)) ∧ x < 9 then min (wf y) (ws x) else sc x y
theorem sj_0 (met J : Nat) (wf ws : Nat → Nat) (sc : Nat → Nat → Nat) : sj met J wf ws sc 0 = sc := by
  funext x y
  unfold sj
  rw [if_neg (by omega), if_neg (by omega), if_neg (by omega), if_neg (by omega)]
theorem si_0 {met J i : Nat} {wf ws : Nat → Nat} {sc : Nat → Nat → Nat} (hi : i < 9) (hJ9 : J < 512) (hJ : ∀ p, p < 9 → J.testBit p = true → wf p = 0 ∧ ws p = 0) : ka (sj met J wf ws sc i) i J (max (wf i) (ws i)) 9 = si met J wf ws sc i 0 := by
  funext x y
  unfold ka
  by_cases h1 : J.testBit y = true ∧ x = i
  · rw [if_pos (Or.inl ⟨h1.2, lt9 hJ9 h1.1, h1.1⟩)]
    unfold si
    rw [if_pos (c := J.testBit y = true ∧ x < i + 1) ⟨h1.1, by omega⟩, h1.2]
  · by_cases h2 : J.testBit x = true ∧ y = i
    · have hx9 := lt9 hJ9 h2.1
      rw [if_pos (Or.inr ⟨h2.2, hx9, h2.1⟩)]
      unfold si
      by_cases h3 : J.testBit y = true ∧ x < i + 1
      · rw [if_pos h3, (hJ x hx9 h2.1).1, (hJ x hx9 h2.1).2]
        have h4 : J.testBit i = true := by rw [← h2.2]; exact h3.1
        rw [(hJ i hi h4).1, (hJ i hi h4).2]
      · rw [if_neg h3, if_pos (c := J.testBit x = true ∧ y < i + 1) ⟨h2.1, by omega⟩, h2.2]
    · rw [if_neg (fun q => q.elim (fun q => h1 ⟨q.2.2, q.1⟩) (fun q => h2 ⟨q.2.2, q.1⟩))]
      unfold sj si
      have e1 : (J.testBit y = true ∧ x < i) ↔ (J.testBit y = true ∧ x < i + 1) := ⟨fun q => ⟨q.1, by omega⟩, fun q => ⟨q.1, by
        rcases Nat.lt_or_eq_of_le (Nat.le_of_lt_succ q.2) with r | r
        · exact r
        · exact absurd ⟨q.1, r⟩ h1⟩⟩
      have e2 : (J.testBit x = true ∧ y < i) ↔ (J.testBit x = true ∧ y < i + 1) := ⟨fun q => ⟨q.1, by omega⟩, fun q => ⟨q.1, by
        rcases Nat.lt_or_eq_of_le (Nat.le_of_lt_succ q.2) with r | r
        · exact r
        · exact absurd ⟨q.1, r⟩ h2⟩⟩
      have e3 : (met < wf x ∧ met < ws y ∧ x < i ∧ y < 9) ↔ (met < wf x ∧ met < ws y ∧ (x < i ∨ (x = i ∧ y < 0)) ∧ y < 9) := by omega
      have e4 : (met < wf y ∧ met < ws x ∧ y < i ∧ x < 9) ↔ (met < wf y ∧ met < ws x ∧ (y < i ∨ (y = i ∧ x < 0)) ∧ x < 9) := by omega
      simp only [e1, e2, e3, e4]
theorem si_t {met J i j v : Nat} {wf ws : Nat → Nat} {sc : Nat → Nat → Nat} (hi : i < 9) (hj : j < 9) (hJ : ∀ p, p < 9 → J.testBit p = true → wf p = 0 ∧ ws p = 0) (hex : ∀ p, p < 9 → met < wf p → met < ws p → False) (h1 : met < wf i) (h2 : met < ws j) (hv : v = min (wf i) (ws j)) : sK (si met J wf ws sc i j) i j v = si met J wf ws sc i (j + 1) := by
  have n1 : ¬ J.testBit i = true := fun q => by have := (hJ i hi q).1; omega
  have n2 : ¬ J.testBit j = true := fun q => by have := (hJ j hj q).2; omega
  have n3 : ¬ met < wf j := fun q => hex j hj q h2
  funext x y
  unfold sK
  by_cases c1 : x = i ∧ y = j
  · obtain ⟨rfl, rfl⟩ := c1
    rw [if_pos (Or.inl ⟨rfl, rfl⟩)]
    unfold si
    rw [if_neg (c := J.testBit y = true ∧ _) (fun q => n2 q.1), if_neg (c := J.testBit x = true ∧ _) (fun q => n1 q.1), if_pos ⟨h1, h2, by omega, hj⟩, hv]
  · by_cases c2 : x = j ∧ y = i
    · obtain ⟨rfl, rfl⟩ := c2
      rw [if_pos (Or.inr ⟨rfl, rfl⟩)]
      unfold si
      rw [if_neg (c := J.testBit y = true ∧ _) (fun q => n1 q.1), if_neg (c := J.testBit x = true ∧ _) (fun q => n2 q.1), if_neg (c := met < wf x ∧ _) (fun q => n3 q.1), if_pos ⟨h1, h2, by omega, hj⟩, hv]
    · rw [if_neg (by omega)]
      unfold si
      have e3 : (x < i ∨ (x = i ∧ y < j)) ↔ (x < i ∨ (x = i ∧ y < j + 1)) := by omega
      have e4 : (y < i ∨ (y = i ∧ x < j)) ↔ (y < i ∨ (y = i ∧ x < j + 1)) := by omega
      simp only [e3, e4]
theorem si_f {met J i j : Nat} {wf ws : Nat → Nat} {sc : Nat → Nat → Nat} (h2 : ¬ met < ws j) : si met J wf ws sc i j = si met J wf ws sc i (j + 1) := by
  funext x y
  unfold si
  have e3 : (met < wf x ∧ met < ws y ∧ (x < i ∨ (x = i ∧ y < j)) ∧ y < 9) ↔ (met < wf x ∧ met < ws y ∧ (x < i ∨ (x = i ∧ y < j + 1)) ∧ y < 9) := by
    by_cases e : y = j
    · subst e
      constructor <;> exact fun q => absurd q.2.1 h2
    · omega
  have e4 : (met < wf y ∧ met < ws x ∧ (y < i ∨ (y = i ∧ x < j)) ∧ x < 9) ↔ (met < wf y ∧ met < ws x ∧ (y < i ∨ (y = i ∧ x < j + 1)) ∧ x < 9) := by
    by_cases e : x = j
    · subst e
      constructor <;> exact fun q => absurd q.2.1 h2
    · omega
  simp only [e3, e4]
theorem si_9 {met J i : Nat} {wf ws : Nat → Nat} {sc : Nat → Nat → Nat} : si met J wf ws sc i 9 = sj met J wf ws sc (i + 1) := by
  funext x y
  unfold si sj
  have e3 : (met < wf x ∧ met < ws y ∧ (x < i ∨ (x = i ∧ y < 9)) ∧ y < 9) ↔ (met < wf x ∧ met < ws y ∧ x < i + 1 ∧ y < 9) := by omega
  have e4 : (met < wf y ∧ met < ws x ∧ (y < i ∨ (y = i ∧ x < 9)) ∧ x < 9) ↔ (met < wf y ∧ met < ws x ∧ y < i + 1 ∧ x < 9) := by omega
  simp only [e3, e4]
theorem si_n {met J i j : Nat} {wf ws : Nat → Nat} {sc : Nat → Nat → Nat} (h : ¬ met < wf i) : si met J wf ws sc i j = sj met J wf ws sc (i + 1) := by
  funext x y
  unfold si sj
  have e3 : (met < wf x ∧ met < ws y ∧ (x < i ∨ (x = i ∧ y < j)) ∧ y < 9) ↔ (met < wf x ∧ met < ws y ∧ x < i + 1 ∧ y < 9) := by
    by_cases e : x = i
    · subst e
      constructor <;> exact fun q => absurd q.1 h
    · omega
  have e4 : (met < wf y ∧ met < ws x ∧ (y < i ∨ (y = i ∧ x < j)) ∧ x < 9) ↔ (met < wf y ∧ met < ws x ∧ y < i + 1 ∧ x < 9) := by
    by_cases e : y = i
    · subst e
      constructor <;> exact fun q => absurd q.1 h
    · omega
  simp only [e3, e4]
theorem l_Kin_join2 {d b : Nat} {pre suf : mH} {rt : Nat → Nat} {sc : Nat → Nat → Nat} {wf : Nat → Nat} {ws : Nat → Nat} {Q : Option Value → mH → Prop} (hb : pre.length = b) {a bb J met : Nat} (hm : met < 1000) (hJ9 : J < 512) (hJ : ∀ p, p < 9 → J.testBit p = true → wf p = 0 ∧ ws p = 0) (hex : ∀ p, p < 9 → met < wf p → met < ws p → False) (hw : ∀ p, p < 9 → wf p < 1000 ∧ ws p < 1000) {i : Nat} (hi : i < 9) (k : ∀ jv : Value, WP (Rn mprog (d + 2)) k_Kin_join none Q 200 [.ref b, .int (nI a), .int (nI bb), .int (nI J), .int (nI met), .int (nI i), jv] [] (kW b pre rt (sj met J wf ws sc (i + 1)) wf ws suf)) : ∀ (n j : Nat), j + n = 9 → WP (Rn mprog (d + 2)) k_Kin_join none Q 138 [.ref b, .int (nI a), .int (nI bb), .int (nI J), .int (nI met), .int (nI i), .int (nI j)] [] (kW b pre rt (si met J wf ws sc i j) wf ws suf) := by
  intro n
  have hwi := hw i hi
  induction n with
  | zero =>
    intro j hj
    have e : j = 9 := by omega
    subst e
    refine wq_iload rfl rfl ?_
    refine wq_bipush (v := nI 9) rfl (by decide) ?_
    refine wq_ic_ge rfl (fun _ => ?_) (fun c => absurd c (by decide))
    rw [si_9]
    exact k _
  | succ n ih =>
    intro j hj
    have hwj := hw j (by omega)
    refine wq_iload rfl rfl ?_
    refine wq_bipush (v := nI 9) rfl (by decide) ?_
    refine wn_ic_ge rfl (by omega) (by omega) (fun c142 => absurd c142 (by omega)) (fun c142 => ?_)
    refine wq_aload_n rfl rfl ?_
    refine wq_getfield (v := .ref (b + 3)) rfl (kW_o0 hb) rfl ?_
    refine wq_iload rfl rfl ?_
    refine wn_iaload (g := wf) rfl (kW_a3 hb) (by omega) (by decide) ?_
    refine wq_iload rfl rfl ?_
    refine wn_ic_le rfl (by omega) (by omega) (fun c154 => ?_) (fun c154 => ?_)
    · skip
      rw [si_n (i := i) (j := j) (by omega)]
      exact k _
    · skip
      refine wq_aload_n rfl rfl ?_
      refine wq_getfield (v := .ref (b + 4)) rfl (kW_o0 hb) rfl ?_
      refine wq_iload rfl rfl ?_
      refine wn_iaload (g := ws) rfl (kW_a4 hb) (by omega) (by decide) ?_
      refine wq_iload rfl rfl ?_
      refine wn_ic_le rfl (by omega) (by omega) (fun c166 => ?_) (fun c166 => ?_)
      · skip
        refine wn_inc (lv' := [.ref b, .int (nI a), .int (nI bb), .int (nI J), .int (nI met), .int (nI i), .int (nI (j + 1))]) rfl rfl rfl ?_
        refine wq_goto rfl ?_
        rw [si_f (i := i) (j := j) (by omega)]
        exact ih (j + 1) (by omega)
      · skip
        refine wq_aload_n rfl rfl ?_
        refine wq_iload rfl rfl ?_
        refine wq_iload rfl rfl ?_
        refine wq_aload_n rfl rfl ?_
        refine wq_getfield (v := .ref (b + 3)) rfl (kW_o0 hb) rfl ?_
        refine wq_iload rfl rfl ?_
        refine wn_iaload (g := wf) rfl (kW_a3 hb) (by omega) (by decide) ?_
        refine wq_aload_n rfl rfl ?_
        refine wq_getfield (v := .ref (b + 4)) rfl (kW_o0 hb) rfl ?_
        refine wq_iload rfl rfl ?_
        refine wn_iaload (g := ws) rfl (kW_a4 hb) (by omega) (by decide) ?_
        refine wn_min rfl rfl (by omega) (by omega) rfl ?_
        refine wq_virt (b := b) (a := [.int (nI i), .int (nI j), .int (nI (min (wf i) (ws j)))]) (rest := []) rfl rfl rfl rfl rfl (kW_o0 hb) ?_
        refine r_Kin_setSince hb (by omega) (by omega) ?_
        show WP _ _ _ _ 194 [.ref b, .int (nI a), .int (nI bb), .int (nI J), .int (nI met), .int (nI i), .int (nI j)] [] (kW b pre rt (sK (si met J wf ws sc i j) i j (min (wf i) (ws j))) wf ws suf)
        refine wn_inc (lv' := [.ref b, .int (nI a), .int (nI bb), .int (nI J), .int (nI met), .int (nI i), .int (nI (j + 1))]) rfl rfl rfl ?_
        refine wq_goto rfl ?_
        rw [si_t hi (by omega) hJ hex c154 c166 rfl]
        exact ih (j + 1) (by omega)
theorem l_Kin_join3 {d b : Nat} {pre suf : mH} {rt : Nat → Nat} {sc : Nat → Nat → Nat} {wf : Nat → Nat} {ws : Nat → Nat} {Q : Option Value → mH → Prop} (hb : pre.length = b) {a bb J met : Nat} (hm : met < 1000) (hJ9 : J < 512) (hJ : ∀ p, p < 9 → J.testBit p = true → wf p = 0 ∧ ws p = 0) (hex : ∀ p, p < 9 → met < wf p → met < ws p → False) (hw : ∀ p, p < 9 → wf p < 1000 ∧ ws p < 1000) (hQ : Q none (kW b pre rt (sj met J wf ws sc 9) wf ws suf)) : ∀ (n i : Nat), i + n = 9 → ∀ jv : Value, WP (Rn mprog (d + 2)) k_Kin_join none Q 104 [.ref b, .int (nI a), .int (nI bb), .int (nI J), .int (nI met), .int (nI i), jv] [] (kW b pre rt (sj met J wf ws sc i) wf ws suf) := by
  intro n
  induction n with
  | zero =>
    intro i hi jv
    have e : i = 9 := by omega
    subst e
    refine wq_iload rfl rfl ?_
    refine wq_bipush (v := nI 9) rfl (by decide) ?_
    refine wq_ic_ge rfl (fun _ => ?_) (fun c => absurd c (by decide))
    refine wq_vret rfl rfl ?_
    exact hQ
  | succ n ih =>
    intro i hi jv
    have hwi := hw i (by omega)
    refine wq_iload rfl rfl ?_
    refine wq_bipush (v := nI 9) rfl (by decide) ?_
    refine wn_ic_ge rfl (by omega) (by omega) (fun c108 => absurd c108 (by omega)) (fun c108 => ?_)
    refine wq_aload_n rfl rfl ?_
    refine wq_iload rfl rfl ?_
    refine wq_iload_n rfl rfl ?_
    refine wq_aload_n rfl rfl ?_
    refine wq_getfield (v := .ref (b + 3)) rfl (kW_o0 hb) rfl ?_
    refine wq_iload rfl rfl ?_
    refine wn_iaload (g := wf) rfl (kW_a3 hb) (by omega) (by decide) ?_
    refine wq_aload_n rfl rfl ?_
    refine wq_getfield (v := .ref (b + 4)) rfl (kW_o0 hb) rfl ?_
    refine wq_iload rfl rfl ?_
    refine wn_iaload (g := ws) rfl (kW_a4 hb) (by omega) (by decide) ?_
    refine wn_max rfl rfl (by omega) (by omega) rfl ?_
    refine wq_virt (b := b) (a := [.int (nI i), .int (nI J), .int (nI (max (wf i) (ws i)))]) (rest := []) rfl rfl rfl rfl rfl (kW_o0 hb) ?_
    refine r_Kin_ssa hb (by omega) (by omega) ?_
    show WP _ _ _ _ 135 [.ref b, .int (nI a), .int (nI bb), .int (nI J), .int (nI met), .int (nI i), jv] [] (kW b pre rt (ka (sj met J wf ws sc i) i J (max (wf i) (ws i)) 9) wf ws suf)
    refine wq_iconst (v := nI 0) rfl (by decide) ?_
    refine wq_istore (lv' := [.ref b, .int (nI a), .int (nI bb), .int (nI J), .int (nI met), .int (nI i), .int (nI 0)]) rfl rfl rfl ?_
    rw [si_0 (by omega) hJ9 hJ]
    refine l_Kin_join2 hb hm hJ9 hJ hex hw (i := i) (by omega) (fun jv => ?_) 9 0 rfl
    refine wn_inc (lv' := [.ref b, .int (nI a), .int (nI bb), .int (nI J), .int (nI met), .int (nI (i + 1)), jv]) rfl rfl rfl ?_
    refine wq_goto rfl ?_
    exact ih (i + 1) (by omega) _
theorem l_Kin_join1' {d b : Nat} {pre suf : mH} {rt : Nat → Nat} {sc : Nat → Nat → Nat} {wf : Nat → Nat} {ws : Nat → Nat} {Q : Option Value → mH → Prop} (hb : pre.length = b) {a bb J met : Nat} (ha : a < 9) (hbb : bb < 9) (hJ : J < 512) (k : ∀ jv : Value, WP (Rn mprog (d + 2)) k_Kin_join none Q 78 [.ref b, .int (nI a), .int (nI bb), .int (nI J), .int (nI met), .int (nI 9), jv] [] (kW b pre rt sc (pw 9 (fun _ => true) (wv J (sc a)) wf) (pw 9 (fun _ => true) (wv J (sc bb)) ws) suf)) (jv : Value) : WP (Rn mprog (d + 2)) k_Kin_join none Q 11 [.ref b, .int (nI a), .int (nI bb), .int (nI J), .int (nI met), .int (nI 0), jv] [] (kW b pre rt sc wf ws suf) := by
  have q := l_Kin_join1 (d := d) hb ha hbb hJ k 9 0 rfl jv
  rw [pw_0, pw_0] at q
  exact q
theorem l_Kin_join3' {d b : Nat} {pre suf : mH} {rt : Nat → Nat} {sc : Nat → Nat → Nat} {wf : Nat → Nat} {ws : Nat → Nat} {Q : Option Value → mH → Prop} (hb : pre.length = b) {a bb J met : Nat} (hm : met < 1000) (hJ9 : J < 512) (hJ : ∀ p, p < 9 → J.testBit p = true → wf p = 0 ∧ ws p = 0) (hex : ∀ p, p < 9 → met < wf p → met < ws p → False) (hw : ∀ p, p < 9 → wf p < 1000 ∧ ws p < 1000) (hQ : Q none (kW b pre rt (sj met J wf ws sc 9) wf ws suf)) (jv : Value) : WP (Rn mprog (d + 2)) k_Kin_join none Q 104 [.ref b, .int (nI a), .int (nI bb), .int (nI J), .int (nI met), .int (nI 0), jv] [] (kW b pre rt sc wf ws suf) := by
  have q := l_Kin_join3 (d := d) (a := a) (bb := bb) hb hm hJ9 hJ hex hw hQ 9 0 rfl jv
  rw [sj_0] at q
  exact q
theorem r_Kin_join {d b : Nat} {pre suf : mH} {rt : Nat → Nat} {sc : Nat → Nat → Nat} {wf : Nat → Nat} {ws : Nat → Nat} {Q : Option Value → mH → Prop} (hb : pre.length = b) {a bb J : Nat} (ha : a < 9) (hbb : bb < 9) (hJ9 : J < 512) (hk : ∀ p q, p < 9 → q < 9 → sc p q < 1000) (hr : ∀ p, p < 9 → rt p < 1000) (hex : ∀ p, p < 9 → sc a bb < wv J (sc a) p → sc a bb < wv J (sc bb) p → False) (hQ : Q none (kW b pre (if sc a bb = 0 then pw 9 (lR J (pw 9 (fun _ => true) (wv J (sc a)) wf) (pw 9 (fun _ => true) (wv J (sc bb)) ws)) (fun _ => min (rt a) (rt bb)) rt else rt) (sj (sc a bb) J (pw 9 (fun _ => true) (wv J (sc a)) wf) (pw 9 (fun _ => true) (wv J (sc bb)) ws) sc 9) (pw 9 (fun _ => true) (wv J (sc a)) wf) (pw 9 (fun _ => true) (wv J (sc bb)) ws) suf)) : Rn mprog (d + 3) n_Kin_join [.ref b, .int (nI a), .int (nI bb), .int (nI J)] (kW b pre rt sc wf ws suf) Q := by
  refine Rn.in rfl rfl rfl ?_
  show WP _ _ _ _ 0 [.ref b, .int (nI a), .int (nI bb), .int (nI J), .long 0, .long 0, .long 0] [] (kW b pre rt sc wf ws suf)
  have hm := hk a bb ha hbb
  have hra := hr a ha
  have hrb := hr bb hbb
  have hf9 : ∀ p, p < 9 → (pw 9 (fun _ => true) (wv J (sc a)) wf) p = wv J (sc a) p := fun p hp => pw_in hp rfl
  have hs9 : ∀ p, p < 9 → (pw 9 (fun _ => true) (wv J (sc bb)) ws) p = wv J (sc bb) p := fun p hp => pw_in hp rfl
  have hw9 : ∀ p, p < 9 → (pw 9 (fun _ => true) (wv J (sc a)) wf) p < 1000 ∧ (pw 9 (fun _ => true) (wv J (sc bb)) ws) p < 1000 := by
    intro p hp
    rw [hf9 p hp, hs9 p hp]
    unfold wv
    have h1 := hk a p ha hp
    have h2 := hk bb p hbb hp
    split <;> omega
  have hJ0 : ∀ p, p < 9 → J.testBit p = true → (pw 9 (fun _ => true) (wv J (sc a)) wf) p = 0 ∧ (pw 9 (fun _ => true) (wv J (sc bb)) ws) p = 0 := by
    intro p hp q
    rw [hf9 p hp, hs9 p hp]
    unfold wv
    rw [if_pos q, if_pos q]
    exact ⟨rfl, rfl⟩
  have hex9 : ∀ p, p < 9 → sc a bb < (pw 9 (fun _ => true) (wv J (sc a)) wf) p → sc a bb < (pw 9 (fun _ => true) (wv J (sc bb)) ws) p → False := by
    intro p hp q1 q2
    rw [hf9 p hp] at q1
    rw [hs9 p hp] at q2
    exact hex p hp q1 q2
  refine wq_aload_n rfl rfl ?_
  refine wq_iload_n rfl rfl ?_
  refine wq_iload_n rfl rfl ?_
  refine wq_virt (b := b) (a := [.int (nI a), .int (nI bb)]) (rest := []) rfl rfl rfl rfl rfl (kW_o0 hb) ?_
  refine r_Kin_sinceOf hb (by omega) (by omega) ?_
  show WP _ _ _ _ 6 [.ref b, .int (nI a), .int (nI bb), .int (nI J), .long 0, .long 0, .long 0] [.int (nI (sc a bb))] (kW b pre rt sc wf ws suf)
  refine wq_istore (lv' := [.ref b, .int (nI a), .int (nI bb), .int (nI J), .int (nI (sc a bb)), .long 0, .long 0]) rfl rfl rfl ?_
  refine wq_iconst (v := nI 0) rfl (by decide) ?_
  refine wq_istore (lv' := [.ref b, .int (nI a), .int (nI bb), .int (nI J), .int (nI (sc a bb)), .int (nI 0), .long 0]) rfl rfl rfl ?_
  refine l_Kin_join1' (met := sc a bb) hb ha hbb hJ9 (fun jv => ?_) _
  have K101 : WP (Rn mprog (d + 2)) k_Kin_join none Q 101 [.ref b, .int (nI a), .int (nI bb), .int (nI J), .int (nI (sc a bb)), .int (nI 9), jv] [] (kW b pre (if sc a bb = 0 then pw 9 (lR J (pw 9 (fun _ => true) (wv J (sc a)) wf) (pw 9 (fun _ => true) (wv J (sc bb)) ws)) (fun _ => min (rt a) (rt bb)) rt else rt) sc (pw 9 (fun _ => true) (wv J (sc a)) wf) (pw 9 (fun _ => true) (wv J (sc bb)) ws) suf) := by
    refine wq_iconst (v := nI 0) rfl (by decide) ?_
    refine wq_istore (lv' := [.ref b, .int (nI a), .int (nI bb), .int (nI J), .int (nI (sc a bb)), .int (nI 0), jv]) rfl rfl rfl ?_
    exact l_Kin_join3' hb hm hJ9 hJ0 hex9 hw9 hQ _
  refine wq_iload rfl rfl ?_
  refine wn_if_ne rfl (by omega) (fun c80 => ?_) (fun c80 => ?_)
  · skip
    rw [if_neg c80] at K101
    exact K101
  · skip
    refine wq_aload_n rfl rfl ?_
    refine wq_aload_n rfl rfl ?_
    refine wq_iload_n rfl rfl ?_
    refine wq_virt (b := b) (a := [.int (nI a)]) (rest := [.ref b]) rfl rfl rfl rfl rfl (kW_o0 hb) ?_
    refine r_Kin_rootOf hb (by omega) ?_
    show WP _ _ _ _ 89 [.ref b, .int (nI a), .int (nI bb), .int (nI J), .int (nI (sc a bb)), .int (nI 9), jv] [.int (nI (rt a)), .ref b] (kW b pre rt sc (pw 9 (fun _ => true) (wv J (sc a)) wf) (pw 9 (fun _ => true) (wv J (sc bb)) ws) suf)
    refine wq_aload_n rfl rfl ?_
    refine wq_iload_n rfl rfl ?_
    refine wq_virt (b := b) (a := [.int (nI bb)]) (rest := [.int (nI (rt a)), .ref b]) rfl rfl rfl rfl rfl (kW_o0 hb) ?_
    refine r_Kin_rootOf hb (by omega) ?_
    show WP _ _ _ _ 94 [.ref b, .int (nI a), .int (nI bb), .int (nI J), .int (nI (sc a bb)), .int (nI 9), jv] [.int (nI (rt bb)), .int (nI (rt a)), .ref b] (kW b pre rt sc (pw 9 (fun _ => true) (wv J (sc a)) wf) (pw 9 (fun _ => true) (wv J (sc bb)) ws) suf)
    refine wn_min rfl rfl (by omega) (by omega) rfl ?_
    refine wq_iload_n rfl rfl ?_
    refine wq_virt (b := b) (a := [.int (nI (min (rt a) (rt bb))), .int (nI J)]) (rest := []) rfl rfl rfl rfl rfl (kW_o0 hb) ?_
    refine r_Kin_low hb hJ9 hw9 ?_
    show WP _ _ _ _ 101 [.ref b, .int (nI a), .int (nI bb), .int (nI J), .int (nI (sc a bb)), .int (nI 9), jv] [] (kW b pre (pw 9 (lR J (pw 9 (fun _ => true) (wv J (sc a)) wf) (pw 9 (fun _ => true) (wv J (sc bb)) ws)) (fun _ => min (rt a) (rt bb)) rt) sc (pw 9 (fun _ => true) (wv J (sc a)) wf) (pw 9 (fun _ => true) (wv J (sc bb)) ws) suf)
    rw [if_pos c80] at K101
    exact K101
