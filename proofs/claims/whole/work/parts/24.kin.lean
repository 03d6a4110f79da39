/-! Kinship -/
def kR (b : Nat) (pre : mH) (rt : Nat → Nat) (sg : Nat → Nat) (wf : Nat → Nat) (ws : Nat → Nat) (suf : mH) : mH := pre ++ (.inr (1, [.ref (b + 1), .ref (b + 2), .ref (b + 3), .ref (b + 4)]) :: .inl (0, 9, .inl (nA rt)) :: .inl (0, 81, .inl (nA sg)) :: .inl (0, 9, .inl (nA wf)) :: .inl (0, 9, .inl (nA ws)) :: suf)
theorem kR_o0 {b : Nat} {pre suf : mH} {rt : Nat → Nat} {sg : Nat → Nat} {wf : Nat → Nat} {ws : Nat → Nat} (hb : pre.length = b) : (kR b pre rt sg wf ws suf)[b]? = some (.inr (1, [.ref (b + 1), .ref (b + 2), .ref (b + 3), .ref (b + 4)])) := ap_get0 hb
theorem kR_a1 {b : Nat} {pre suf : mH} {rt : Nat → Nat} {sg : Nat → Nat} {wf : Nat → Nat} {ws : Nat → Nat} (hb : pre.length = b) : (kR b pre rt sg wf ws suf)[b + 1]? = some (.inl (0, 9, .inl (nA rt))) := ap_get hb
theorem kR_t1 {b : Nat} {pre suf : mH} {rt : Nat → Nat} {sg : Nat → Nat} {wf : Nat → Nat} {ws : Nat → Nat} (hb : pre.length = b) {g : Nat → Nat} : (kR b pre rt sg wf ws suf).set (b + 1) (.inl (0, 9, .inl (nA g))) = kR b pre g sg wf ws suf := ap_set hb
theorem kR_a2 {b : Nat} {pre suf : mH} {rt : Nat → Nat} {sg : Nat → Nat} {wf : Nat → Nat} {ws : Nat → Nat} (hb : pre.length = b) : (kR b pre rt sg wf ws suf)[b + 2]? = some (.inl (0, 81, .inl (nA sg))) := ap_get hb
theorem kR_t2 {b : Nat} {pre suf : mH} {rt : Nat → Nat} {sg : Nat → Nat} {wf : Nat → Nat} {ws : Nat → Nat} (hb : pre.length = b) {g : Nat → Nat} : (kR b pre rt sg wf ws suf).set (b + 2) (.inl (0, 81, .inl (nA g))) = kR b pre rt g wf ws suf := ap_set hb
theorem kR_a3 {b : Nat} {pre suf : mH} {rt : Nat → Nat} {sg : Nat → Nat} {wf : Nat → Nat} {ws : Nat → Nat} (hb : pre.length = b) : (kR b pre rt sg wf ws suf)[b + 3]? = some (.inl (0, 9, .inl (nA wf))) := ap_get hb
theorem kR_t3 {b : Nat} {pre suf : mH} {rt : Nat → Nat} {sg : Nat → Nat} {wf : Nat → Nat} {ws : Nat → Nat} (hb : pre.length = b) {g : Nat → Nat} : (kR b pre rt sg wf ws suf).set (b + 3) (.inl (0, 9, .inl (nA g))) = kR b pre rt sg g ws suf := ap_set hb
theorem kR_a4 {b : Nat} {pre suf : mH} {rt : Nat → Nat} {sg : Nat → Nat} {wf : Nat → Nat} {ws : Nat → Nat} (hb : pre.length = b) : (kR b pre rt sg wf ws suf)[b + 4]? = some (.inl (0, 9, .inl (nA ws))) := ap_get hb
theorem kR_t4 {b : Nat} {pre suf : mH} {rt : Nat → Nat} {sg : Nat → Nat} {wf : Nat → Nat} {ws : Nat → Nat} (hb : pre.length = b) {g : Nat → Nat} : (kR b pre rt sg wf ws suf).set (b + 4) (.inl (0, 9, .inl (nA g))) = kR b pre rt sg wf g suf := ap_set hb
theorem sK_comm (f : Nat → Nat → Nat) (p q v : Nat) : sK f p q v = sK f q p v := by
  funext x y
  unfold sK
  have e : ((x = p ∧ y = q) ∨ (x = q ∧ y = p)) ↔ ((x = q ∧ y = p) ∨ (x = p ∧ y = q)) := Or.comm
  simp only [e]
def kE (sc : Nat → Nat → Nat) : Nat → Nat → Nat := fun x y => if x < 9 then 0 else sc x y
theorem kE_fz (sc : Nat → Nat → Nat) : fz 0 (K2 sc) 81 = K2 (kE sc) := by
  funext k
  unfold fz K2 kE
  by_cases h : k < 81
  · rw [if_pos h, if_pos (by omega)]
  · rw [if_neg h, if_neg (by omega)]
theorem r_Kin_empty {d b : Nat} {pre suf : mH} {rt : Nat → Nat} {sc : Nat → Nat → Nat} {wf : Nat → Nat} {ws : Nat → Nat} {Q : Option Value → mH → Prop} (hb : pre.length = b) (hQ : Q none (kW b pre (fz 0 rt 9) (kE sc) wf ws suf)) : Rn mprog (d + 2) n_Kin_empty [.ref b] (kW b pre rt sc wf ws suf) Q := by
  show Rn mprog (d + 2) n_Kin_empty [.ref b] (kR b pre rt (K2 sc) wf ws suf) Q
  refine Rn.in rfl rfl rfl ?_
  show WP _ _ _ _ 0 [.ref b] [] (kR b pre rt (K2 sc) wf ws suf)
  refine wq_aload_n rfl rfl ?_
  refine wq_getfield (v := .ref (b + 1)) rfl (kR_o0 hb) rfl ?_
  refine wq_iconst (v := nI 0) rfl (by decide) ?_
  refine wq_stat (a := [.ref (b + 1), .int (nI 0)]) (rest := []) rfl rfl rfl rfl rfl ?_
  refine r_fill (g := rt) (kR_a1 hb) (by decide) ?_
  rw [kR_t1 hb]
  show WP _ _ _ _ 8 [.ref b] [] (kR b pre (fz 0 rt 9) (K2 sc) wf ws suf)
  refine wq_aload_n rfl rfl ?_
  refine wq_getfield (v := .ref (b + 2)) rfl (kR_o0 hb) rfl ?_
  refine wq_iconst (v := nI 0) rfl (by decide) ?_
  refine wq_stat (a := [.ref (b + 2), .int (nI 0)]) (rest := []) rfl rfl rfl rfl rfl ?_
  refine r_fill (g := K2 sc) (kR_a2 hb) (by decide) ?_
  rw [kR_t2 hb]
  show WP _ _ _ _ 16 [.ref b] [] (kR b pre (fz 0 rt 9) (fz 0 (K2 sc) 81) wf ws suf)
  refine wq_vret rfl rfl ?_
  rw [kE_fz]
  exact hQ
theorem r_Kin_rootOf {d b : Nat} {pre suf : mH} {rt : Nat → Nat} {sc : Nat → Nat → Nat} {wf : Nat → Nat} {ws : Nat → Nat} {Q : Option Value → mH → Prop} (hb : pre.length = b) {p : Nat} (hp : p < 9) (hQ : Q (some (.int (nI (rt p)))) (kW b pre rt sc wf ws suf)) : Rn mprog (d + 2) n_Kin_rootOf [.ref b, .int (nI p)] (kW b pre rt sc wf ws suf) Q := by
  refine Rn.in rfl rfl rfl ?_
  show WP _ _ _ _ 0 [.ref b, .int (nI p)] [] (kW b pre rt sc wf ws suf)
  refine wq_iload_n rfl rfl ?_
  refine wq_stat (a := [.int (nI p)]) (rest := []) rfl rfl rfl rfl rfl ?_
  refine r_Z_isPt (by omega) ?_
  show WP _ _ _ _ 4 [.ref b, .int (nI p)] [.int (nI 1)] (kW b pre rt sc wf ws suf)
  refine wq_if_eq rfl (fun c => absurd c (by decide)) (fun _ => ?_)
  refine wq_aload_n rfl rfl ?_
  refine wq_getfield (v := .ref (b + 1)) rfl (kW_o0 hb) rfl ?_
  refine wq_iload_n rfl rfl ?_
  refine wn_iaload (g := rt) rfl (kW_a1 hb) (by omega) (by decide) ?_
  refine wq_goto rfl ?_
  refine wq_iret rfl trivial ?_
  exact hQ
theorem r_Kin_sinceOf {d b : Nat} {pre suf : mH} {rt : Nat → Nat} {sc : Nat → Nat → Nat} {wf : Nat → Nat} {ws : Nat → Nat} {Q : Option Value → mH → Prop} (hb : pre.length = b) {p q : Nat} (hp : p < 9) (hq : q < 9) (hQ : Q (some (.int (nI (sc p q)))) (kW b pre rt sc wf ws suf)) : Rn mprog (d + 2) n_Kin_sinceOf [.ref b, .int (nI p), .int (nI q)] (kW b pre rt sc wf ws suf) Q := by
  refine Rn.in rfl rfl rfl ?_
  show WP _ _ _ _ 0 [.ref b, .int (nI p), .int (nI q)] [] (kW b pre rt sc wf ws suf)
  refine wq_iload_n rfl rfl ?_
  refine wq_stat (a := [.int (nI p)]) (rest := []) rfl rfl rfl rfl rfl ?_
  refine r_Z_isPt (by omega) ?_
  show WP _ _ _ _ 4 [.ref b, .int (nI p), .int (nI q)] [.int (nI 1)] (kW b pre rt sc wf ws suf)
  refine wq_if_eq rfl (fun c => absurd c (by decide)) (fun _ => ?_)
  refine wq_iload_n rfl rfl ?_
  refine wq_stat (a := [.int (nI q)]) (rest := []) rfl rfl rfl rfl rfl ?_
  refine r_Z_isPt (by omega) ?_
  show WP _ _ _ _ 11 [.ref b, .int (nI p), .int (nI q)] [.int (nI 1)] (kW b pre rt sc wf ws suf)
  refine wq_if_eq rfl (fun c => absurd c (by decide)) (fun _ => ?_)
  refine wq_aload_n rfl rfl ?_
  refine wq_getfield (v := .ref (b + 2)) rfl (kW_o0 hb) rfl ?_
  refine wq_iload_n rfl rfl ?_
  refine wq_bipush (v := nI 9) rfl (by decide) ?_
  refine wn_imul rfl ?_
  refine wq_iload_n rfl rfl ?_
  refine wn_iadd rfl ?_
  refine wn_iaload (g := (K2 sc)) rfl (kW_a2 hb) (by omega) (by decide) ?_
  refine wq_goto rfl ?_
  refine wq_iret rfl trivial ?_
  have e : K2 sc (p * 9 + q) = sc p q := by rw [Nat.mul_comm]; exact K2_at hq
  rw [e]
  exact hQ
theorem r_Kin_come {d b : Nat} {pre suf : mH} {rt : Nat → Nat} {sc : Nat → Nat → Nat} {wf : Nat → Nat} {ws : Nat → Nat} {Q : Option Value → mH → Prop} (hb : pre.length = b) {p k : Nat} (hp : p < 9) (hQ : Q none (kW b pre (uN' rt p k) sc wf ws suf)) : Rn mprog (d + 2) n_Kin_come [.ref b, .int (nI p), .int (nI k)] (kW b pre rt sc wf ws suf) Q := by
  refine Rn.in rfl rfl rfl ?_
  show WP _ _ _ _ 0 [.ref b, .int (nI p), .int (nI k)] [] (kW b pre rt sc wf ws suf)
  refine wq_iload_n rfl rfl ?_
  refine wq_stat (a := [.int (nI p)]) (rest := []) rfl rfl rfl rfl rfl ?_
  refine r_Z_isPt (by omega) ?_
  show WP _ _ _ _ 4 [.ref b, .int (nI p), .int (nI k)] [.int (nI 1)] (kW b pre rt sc wf ws suf)
  refine wq_if_eq rfl (fun c => absurd c (by decide)) (fun _ => ?_)
  refine wq_aload_n rfl rfl ?_
  refine wq_getfield (v := .ref (b + 1)) rfl (kW_o0 hb) rfl ?_
  refine wq_iload_n rfl rfl ?_
  refine wq_iload_n rfl rfl ?_
  refine wn_iastore (g := rt) (h' := kW b pre (uN' rt p k) sc wf ws suf) rfl (kW_a1 hb) (by omega) (by decide) (kW_t1 hb) ?_
  refine wq_vret rfl rfl ?_
  exact hQ
theorem r_Kin_setSince {d b : Nat} {pre suf : mH} {rt : Nat → Nat} {sc : Nat → Nat → Nat} {wf : Nat → Nat} {ws : Nat → Nat} {Q : Option Value → mH → Prop} (hb : pre.length = b) {p q k : Nat} (hp : p < 9) (hq : q < 9) (hQ : Q none (kW b pre rt (sK sc p q k) wf ws suf)) : Rn mprog (d + 2) n_Kin_setSince [.ref b, .int (nI p), .int (nI q), .int (nI k)] (kW b pre rt sc wf ws suf) Q := by
  show Rn mprog (d + 2) n_Kin_setSince [.ref b, .int (nI p), .int (nI q), .int (nI k)] (kR b pre rt (K2 sc) wf ws suf) Q
  refine Rn.in rfl rfl rfl ?_
  show WP _ _ _ _ 0 [.ref b, .int (nI p), .int (nI q), .int (nI k)] [] (kR b pre rt (K2 sc) wf ws suf)
  refine wq_iload_n rfl rfl ?_
  refine wq_stat (a := [.int (nI p)]) (rest := []) rfl rfl rfl rfl rfl ?_
  refine r_Z_isPt (by omega) ?_
  show WP _ _ _ _ 4 [.ref b, .int (nI p), .int (nI q), .int (nI k)] [.int (nI 1)] (kR b pre rt (K2 sc) wf ws suf)
  refine wq_if_eq rfl (fun c => absurd c (by decide)) (fun _ => ?_)
  refine wq_iload_n rfl rfl ?_
  refine wq_stat (a := [.int (nI q)]) (rest := []) rfl rfl rfl rfl rfl ?_
  refine r_Z_isPt (by omega) ?_
  show WP _ _ _ _ 11 [.ref b, .int (nI p), .int (nI q), .int (nI k)] [.int (nI 1)] (kR b pre rt (K2 sc) wf ws suf)
  refine wq_if_eq rfl (fun c => absurd c (by decide)) (fun _ => ?_)
  refine wq_aload_n rfl rfl ?_
  refine wq_getfield (v := .ref (b + 2)) rfl (kR_o0 hb) rfl ?_
  refine wq_iload_n rfl rfl ?_
  refine wq_bipush (v := nI 9) rfl (by decide) ?_
  refine wn_imul rfl ?_
  refine wq_iload_n rfl rfl ?_
  refine wn_iadd rfl ?_
  refine wq_iload_n rfl rfl ?_
  refine wn_iastore (g := (K2 sc)) (h' := kR b pre rt (uN' ((K2 sc)) ((p * 9) + q) k) wf ws suf) rfl (kR_a2 hb) (by omega) (by decide) (kR_t2 hb) ?_
  refine wq_aload_n rfl rfl ?_
  refine wq_getfield (v := .ref (b + 2)) rfl (kR_o0 hb) rfl ?_
  refine wq_iload_n rfl rfl ?_
  refine wq_bipush (v := nI 9) rfl (by decide) ?_
  refine wn_imul rfl ?_
  refine wq_iload_n rfl rfl ?_
  refine wn_iadd rfl ?_
  refine wq_iload_n rfl rfl ?_
  refine wn_iastore (g := (uN' ((K2 sc)) ((p * 9) + q) k)) (h' := kR b pre rt (uN' ((uN' ((K2 sc)) ((p * 9) + q) k)) ((q * 9) + p) k) wf ws suf) rfl (kR_a2 hb) (by omega) (by decide) (kR_t2 hb) ?_
  refine wq_vret rfl rfl ?_
  have e := K2_set (f := sc) (v := k) hp hq
  rw [Nat.mul_comm p 9, Nat.mul_comm q 9, e]
  exact hQ
def ka (sc : Nat → Nat → Nat) (a oth k i : Nat) : Nat → Nat → Nat := fun x y => if (x = a ∧ y < i ∧ oth.testBit y = true) ∨ (y = a ∧ x < i ∧ oth.testBit x = true) then k else sc x y
theorem ka_0 (sc : Nat → Nat → Nat) (a oth k : Nat) : ka sc a oth k 0 = sc := by
  funext x y
  unfold ka
  rw [if_neg (by omega)]
theorem ka_t {sc : Nat → Nat → Nat} {a oth k i : Nat} (h : oth.testBit i = true) : sK (ka sc a oth k i) a i k = ka sc a oth k (i + 1) := by
  funext x y
  unfold sK ka
  by_cases h1 : (x = a ∧ y = i) ∨ (x = i ∧ y = a)
  · rw [if_pos h1, if_pos]
    rcases h1 with ⟨h1, h2⟩ | ⟨h1, h2⟩
    · exact Or.inl ⟨h1, by omega, by rw [h2]; exact h⟩
    · exact Or.inr ⟨h2, by omega, by rw [h1]; exact h⟩
  · rw [if_neg h1]
    have e : ((x = a ∧ y < i ∧ oth.testBit y = true) ∨ (y = a ∧ x < i ∧ oth.testBit x = true)) ↔ ((x = a ∧ y < i + 1 ∧ oth.testBit y = true) ∨ (y = a ∧ x < i + 1 ∧ oth.testBit x = true)) := by
      constructor
      · rintro (⟨q1, q2, q3⟩ | ⟨q1, q2, q3⟩)
        · exact Or.inl ⟨q1, by omega, q3⟩
        · exact Or.inr ⟨q1, by omega, q3⟩
      · rintro (⟨q1, q2, q3⟩ | ⟨q1, q2, q3⟩)
        · exact Or.inl ⟨q1, by omega, q3⟩
        · exact Or.inr ⟨q1, by omega, q3⟩
    simp only [e]
theorem ka_f {sc : Nat → Nat → Nat} {a oth k i : Nat} (h : oth.testBit i = false) : ka sc a oth k i = ka sc a oth k (i + 1) := by
  funext x y
  unfold ka
  have g : ∀ z, (z < i ∧ oth.testBit z = true) ↔ (z < i + 1 ∧ oth.testBit z = true) := by
    intro z
    constructor
    · exact fun q => ⟨by omega, q.2⟩
    · intro q
      refine ⟨?_, q.2⟩
      rcases Nat.lt_or_eq_of_le (Nat.le_of_lt_succ q.1) with r | r
      · exact r
      · have q2 := q.2
        rw [r, h] at q2
        cases q2
  simp only [g]
theorem l_Kin_ssa {d b : Nat} {pre suf : mH} {rt : Nat → Nat} {sc : Nat → Nat → Nat} {wf : Nat → Nat} {ws : Nat → Nat} {Q : Option Value → mH → Prop} (hb : pre.length = b) {p oth k : Nat} (hp : p < 9) (ho : oth < 512) (hQ : Q none (kW b pre rt (ka sc p oth k 9) wf ws suf)) : ∀ (n i : Nat), i + n = 9 → WP (Rn mprog (d + 1)) k_Kin_setSinceOfAll none Q 3 [.ref b, .int (nI p), .int (nI oth), .int (nI k), .int (nI i)] [] (kW b pre rt (ka sc p oth k i) wf ws suf) := by
  intro n
  induction n with
  | zero =>
    intro i hi
    have e : i = 9 := by omega
    subst e
    refine wq_iload rfl rfl ?_
    refine wq_bipush (v := nI 9) rfl (by decide) ?_
    refine wq_ic_ge rfl (fun _ => ?_) (fun c => absurd c (by decide))
    refine wq_vret rfl rfl ?_
    exact hQ
  | succ n ih =>
    intro i hi
    show WP _ _ _ _ 3 [.ref b, .int (nI p), .int (nI oth), .int (nI k), .int (nI i)] [] (kR b pre rt (K2 (ka sc p oth k i)) wf ws suf)
    refine wq_iload rfl rfl ?_
    refine wq_bipush (v := nI 9) rfl (by decide) ?_
    refine wn_ic_ge rfl (by omega) (by omega) (fun c7 => absurd c7 (by omega)) (fun c7 => ?_)
    refine wq_iload_n rfl rfl ?_
    refine wq_stat (a := [.int (nI p)]) (rest := []) rfl rfl rfl rfl rfl ?_
    refine r_Z_isPt (by omega) ?_
    show WP _ _ _ _ 14 [.ref b, .int (nI p), .int (nI oth), .int (nI k), .int (nI i)] [.int (nI 1)] (kR b pre rt (K2 (ka sc p oth k i)) wf ws suf)
    refine wq_if_eq rfl (fun c => absurd c (by decide)) (fun _ => ?_)
    refine wq_iload_n rfl rfl ?_
    refine wq_iload rfl rfl ?_
    refine wq_stat (a := [.int (nI oth), .int (nI i)]) (rest := []) rfl rfl rfl rfl rfl ?_
    refine r_Z_isIn (by omega) (by omega) (fun c20 => ?_) (fun c20 => ?_)
    · skip
      show WP _ _ _ _ 23 [.ref b, .int (nI p), .int (nI oth), .int (nI k), .int (nI i)] [.int (nI 1)] (kR b pre rt (K2 (ka sc p oth k i)) wf ws suf)
      refine wq_if_eq rfl (fun c => absurd c (by decide)) (fun _ => ?_)
      refine wq_aload_n rfl rfl ?_
      refine wq_getfield (v := .ref (b + 2)) rfl (kR_o0 hb) rfl ?_
      refine wq_iload_n rfl rfl ?_
      refine wq_bipush (v := nI 9) rfl (by decide) ?_
      refine wn_imul rfl ?_
      refine wq_iload rfl rfl ?_
      refine wn_iadd rfl ?_
      refine wq_iload_n rfl rfl ?_
      refine wn_iastore (g := (K2 (ka sc p oth k i))) (h' := kR b pre rt (uN' ((K2 (ka sc p oth k i))) ((p * 9) + i) k) wf ws suf) rfl (kR_a2 hb) (by omega) (by decide) (kR_t2 hb) ?_
      refine wq_aload_n rfl rfl ?_
      refine wq_getfield (v := .ref (b + 2)) rfl (kR_o0 hb) rfl ?_
      refine wq_iload rfl rfl ?_
      refine wq_bipush (v := nI 9) rfl (by decide) ?_
      refine wn_imul rfl ?_
      refine wq_iload_n rfl rfl ?_
      refine wn_iadd rfl ?_
      refine wq_iload_n rfl rfl ?_
      refine wn_iastore (g := (uN' ((K2 (ka sc p oth k i))) ((p * 9) + i) k)) (h' := kR b pre rt (uN' ((uN' ((K2 (ka sc p oth k i))) ((p * 9) + i) k)) ((i * 9) + p) k) wf ws suf) rfl (kR_a2 hb) (by omega) (by decide) (kR_t2 hb) ?_
      refine wn_inc (lv' := [.ref b, .int (nI p), .int (nI oth), .int (nI k), .int (nI (i + 1))]) rfl rfl rfl ?_
      refine wq_goto rfl ?_
      have e := K2_set (f := ka sc p oth k i) (v := k) hp (show i < 9 by omega)
      rw [Nat.mul_comm p 9, Nat.mul_comm i 9, e, ka_t c20]
      exact ih (i + 1) (by omega)
    · skip
      show WP _ _ _ _ 23 [.ref b, .int (nI p), .int (nI oth), .int (nI k), .int (nI i)] [.int (nI 0)] (kR b pre rt (K2 (ka sc p oth k i)) wf ws suf)
      refine wq_if_eq rfl (fun _ => ?_) (fun c => absurd c (by decide))
      refine wn_inc (lv' := [.ref b, .int (nI p), .int (nI oth), .int (nI k), .int (nI (i + 1))]) rfl rfl rfl ?_
      refine wq_goto rfl ?_
      rw [ka_f (i := i) c20]
      exact ih (i + 1) (by omega)
theorem r_Kin_ssa {d b : Nat} {pre suf : mH} {rt : Nat → Nat} {sc : Nat → Nat → Nat} {wf : Nat → Nat} {ws : Nat → Nat} {Q : Option Value → mH → Prop} (hb : pre.length = b) {p oth k : Nat} (hp : p < 9) (ho : oth < 512) (hQ : Q none (kW b pre rt (ka sc p oth k 9) wf ws suf)) : Rn mprog (d + 2) n_Kin_setSinceOfAll [.ref b, .int (nI p), .int (nI oth), .int (nI k)] (kW b pre rt sc wf ws suf) Q := by
  refine Rn.in rfl rfl rfl ?_
  show WP _ _ _ _ 0 [.ref b, .int (nI p), .int (nI oth), .int (nI k), .long 0] [] (kW b pre rt sc wf ws suf)
  refine wq_iconst (v := nI 0) rfl (by decide) ?_
  refine wq_istore (lv' := [.ref b, .int (nI p), .int (nI oth), .int (nI k), .int (nI 0)]) rfl rfl rfl ?_
  have q := l_Kin_ssa (d := d) hb hp ho hQ 9 0 rfl
  rw [ka_0] at q
  exact q
theorem l_Kin_go {d b : Nat} {pre suf : mH} {rt : Nat → Nat} {sc : Nat → Nat → Nat} {wf : Nat → Nat} {ws : Nat → Nat} {Q : Option Value → mH → Prop} (hb : pre.length = b) {p : Nat} (hp : p < 9) (hQ : Q none (kW b pre (uN' rt p 0) (kz sc p 9) wf ws suf)) : ∀ (n i : Nat), i + n = 9 → WP (Rn mprog (d + 2)) k_Kin_go none Q 2 [.ref b, .int (nI p), .int (nI i)] [] (kW b pre rt (kz sc p i) wf ws suf) := by
  intro n
  induction n with
  | zero =>
    intro i hi
    have e : i = 9 := by omega
    subst e
    refine wq_iload_n rfl rfl ?_
    refine wq_bipush (v := nI 9) rfl (by decide) ?_
    refine wq_ic_ge rfl (fun _ => ?_) (fun c => absurd c (by decide))
    refine wq_iload_n rfl rfl ?_
    refine wq_stat (a := [.int (nI p)]) (rest := []) rfl rfl rfl rfl rfl ?_
    refine r_Z_isPt (by omega) ?_
    show WP _ _ _ _ 25 [.ref b, .int (nI p), .int (nI 9)] [.int (nI 1)] (kW b pre rt (kz sc p 9) wf ws suf)
    refine wq_if_eq rfl (fun c => absurd c (by decide)) (fun _ => ?_)
    refine wq_aload_n rfl rfl ?_
    refine wq_getfield (v := .ref (b + 1)) rfl (kW_o0 hb) rfl ?_
    refine wq_iload_n rfl rfl ?_
    refine wq_iconst (v := nI 0) rfl (by decide) ?_
    refine wn_iastore (g := rt) (h' := kW b pre (uN' rt p 0) (kz sc p 9) wf ws suf) rfl (kW_a1 hb) (by omega) (by decide) (kW_t1 hb) ?_
    refine wq_vret rfl rfl ?_
    exact hQ
  | succ n ih =>
    intro i hi
    refine wq_iload_n rfl rfl ?_
    refine wq_bipush (v := nI 9) rfl (by decide) ?_
    refine wn_ic_ge rfl (by omega) (by omega) (fun c5 => absurd c5 (by omega)) (fun c5 => ?_)
    refine wq_aload_n rfl rfl ?_
    refine wq_iload_n rfl rfl ?_
    refine wq_iload_n rfl rfl ?_
    refine wq_iconst (v := nI 0) rfl (by decide) ?_
    refine wq_virt (b := b) (a := [.int (nI i), .int (nI p), .int (nI 0)]) (rest := []) rfl rfl rfl rfl rfl (kW_o0 hb) ?_
    refine r_Kin_setSince hb (by omega) (by omega) ?_
    show WP _ _ _ _ 15 [.ref b, .int (nI p), .int (nI i)] [] (kW b pre rt (sK (kz sc p i) i p 0) wf ws suf)
    refine wn_inc (lv' := [.ref b, .int (nI p), .int (nI (i + 1))]) rfl rfl rfl ?_
    refine wq_goto rfl ?_
    rw [sK_comm, kz_s]
    exact ih (i + 1) (by omega)
theorem r_Kin_go {d b : Nat} {pre suf : mH} {rt : Nat → Nat} {sc : Nat → Nat → Nat} {wf : Nat → Nat} {ws : Nat → Nat} {Q : Option Value → mH → Prop} (hb : pre.length = b) {p : Nat} (hp : p < 9) (hQ : Q none (kW b pre (uN' rt p 0) (kz sc p 9) wf ws suf)) : Rn mprog (d + 3) n_Kin_go [.ref b, .int (nI p)] (kW b pre rt sc wf ws suf) Q := by
  refine Rn.in rfl rfl rfl ?_
  show WP _ _ _ _ 0 [.ref b, .int (nI p), .long 0] [] (kW b pre rt sc wf ws suf)
  refine wq_iconst (v := nI 0) rfl (by decide) ?_
  refine wq_istore_n (lv' := [.ref b, .int (nI p), .int (nI 0)]) rfl rfl rfl ?_
  have q := l_Kin_go (d := d) hb hp hQ 9 0 rfl
  rw [kz_0] at q
  exact q
def kP (sc : Nat → Nat → Nat) (fi se k i : Nat) : Nat → Nat → Nat := fun x y => if (fi.testBit x = true ∧ se.testBit y = true ∧ x < i) ∨ (fi.testBit y = true ∧ se.testBit x = true ∧ y < i) then k else sc x y
theorem kP_0 (sc : Nat → Nat → Nat) (fi se k : Nat) : kP sc fi se k 0 = sc := by
  funext x y
  unfold kP
  rw [if_neg (by omega)]
theorem lt9 {x t : Nat} (hx : x < 512) (h : x.testBit t = true) : t < 9 := by
  rcases Nat.lt_or_ge t 9 with q | q
  · exact q
  · rw [bit_lt (n := 9) hx q] at h; cases h
theorem kP_t {sc : Nat → Nat → Nat} {fi se k i : Nat} (hs : se < 512) (h : fi.testBit i = true) : ka (kP sc fi se k i) i se k 9 = kP sc fi se k (i + 1) := by
  funext x y
  unfold ka kP
  by_cases h1 : (x = i ∧ y < 9 ∧ se.testBit y = true) ∨ (y = i ∧ x < 9 ∧ se.testBit x = true)
  · rw [if_pos h1, if_pos]
    rcases h1 with ⟨q1, q2, q3⟩ | ⟨q1, q2, q3⟩
    · exact Or.inl ⟨by rw [q1]; exact h, q3, by omega⟩
    · exact Or.inr ⟨by rw [q1]; exact h, q3, by omega⟩
  · rw [if_neg h1]
    have e : ((fi.testBit x = true ∧ se.testBit y = true ∧ x < i) ∨ (fi.testBit y = true ∧ se.testBit x = true ∧ y < i)) ↔ ((fi.testBit x = true ∧ se.testBit y = true ∧ x < i + 1) ∨ (fi.testBit y = true ∧ se.testBit x = true ∧ y < i + 1)) := by
      constructor
      · rintro (⟨q1, q2, q3⟩ | ⟨q1, q2, q3⟩)
        · exact Or.inl ⟨q1, q2, by omega⟩
        · exact Or.inr ⟨q1, q2, by omega⟩
      · rintro (⟨q1, q2, q3⟩ | ⟨q1, q2, q3⟩)
        · by_cases r : x = i
          · exact absurd (Or.inl ⟨r, lt9 hs q2, q2⟩) h1
          · exact Or.inl ⟨q1, q2, by omega⟩
        · by_cases r : y = i
          · exact absurd (Or.inr ⟨r, lt9 hs q2, q2⟩) h1
          · exact Or.inr ⟨q1, q2, by omega⟩
    simp only [e]
theorem kP_f {sc : Nat → Nat → Nat} {fi se k i : Nat} (h : fi.testBit i = false) : kP sc fi se k i = kP sc fi se k (i + 1) := by
  funext x y
  unfold kP
  have g : ∀ z w, (fi.testBit z = true ∧ se.testBit w = true ∧ z < i) ↔ (fi.testBit z = true ∧ se.testBit w = true ∧ z < i + 1) := fun z w => ⟨fun q => ⟨q.1, q.2.1, by omega⟩, fun q => ⟨q.1, q.2.1, by
    rcases Nat.lt_or_eq_of_le (Nat.le_of_lt_succ q.2.2) with r | r
    · exact r
    · have q1 := q.1; rw [r, h] at q1; cases q1⟩⟩
  simp only [g]
theorem l_Kin_part {d b : Nat} {pre suf : mH} {rt : Nat → Nat} {sc : Nat → Nat → Nat} {wf : Nat → Nat} {ws : Nat → Nat} {Q : Option Value → mH → Prop} (hb : pre.length = b) {fi se k : Nat} (hf : fi < 512) (hs : se < 512) (hQ : Q none (kW b pre rt (kP sc fi se k 9) wf ws suf)) : ∀ (n i : Nat), i + n = 9 → WP (Rn mprog (d + 2)) k_Kin_part none Q 3 [.ref b, .int (nI fi), .int (nI se), .int (nI k), .int (nI i)] [] (kW b pre rt (kP sc fi se k i) wf ws suf) := by
  intro n
  induction n with
  | zero =>
    intro i hi
    have e : i = 9 := by omega
    subst e
    refine wq_iload rfl rfl ?_
    refine wq_bipush (v := nI 9) rfl (by decide) ?_
    refine wq_ic_ge rfl (fun _ => ?_) (fun c => absurd c (by decide))
    refine wq_vret rfl rfl ?_
    exact hQ
  | succ n ih =>
    intro i hi
    refine wq_iload rfl rfl ?_
    refine wq_bipush (v := nI 9) rfl (by decide) ?_
    refine wn_ic_ge rfl (by omega) (by omega) (fun c7 => absurd c7 (by omega)) (fun c7 => ?_)
    refine wq_iload_n rfl rfl ?_
    refine wq_iload rfl rfl ?_
    refine wq_stat (a := [.int (nI fi), .int (nI i)]) (rest := []) rfl rfl rfl rfl rfl ?_
    refine r_Z_isIn (by omega) (by omega) (fun c13 => ?_) (fun c13 => ?_)
    · skip
      show WP _ _ _ _ 16 [.ref b, .int (nI fi), .int (nI se), .int (nI k), .int (nI i)] [.int (nI 1)] (kW b pre rt (kP sc fi se k i) wf ws suf)
      refine wq_if_eq rfl (fun c => absurd c (by decide)) (fun _ => ?_)
      refine wq_aload_n rfl rfl ?_
      refine wq_iload rfl rfl ?_
      refine wq_iload_n rfl rfl ?_
      refine wq_iload_n rfl rfl ?_
      refine wq_virt (b := b) (a := [.int (nI i), .int (nI se), .int (nI k)]) (rest := []) rfl rfl rfl rfl rfl (kW_o0 hb) ?_
      refine r_Kin_ssa hb (by omega) (by omega) ?_
      show WP _ _ _ _ 27 [.ref b, .int (nI fi), .int (nI se), .int (nI k), .int (nI i)] [] (kW b pre rt (ka (kP sc fi se k i) i se k 9) wf ws suf)
      refine wn_inc (lv' := [.ref b, .int (nI fi), .int (nI se), .int (nI k), .int (nI (i + 1))]) rfl rfl rfl ?_
      refine wq_goto rfl ?_
      rw [kP_t hs c13]
      exact ih (i + 1) (by omega)
    · skip
      show WP _ _ _ _ 16 [.ref b, .int (nI fi), .int (nI se), .int (nI k), .int (nI i)] [.int (nI 0)] (kW b pre rt (kP sc fi se k i) wf ws suf)
      refine wq_if_eq rfl (fun _ => ?_) (fun c => absurd c (by decide))
      refine wn_inc (lv' := [.ref b, .int (nI fi), .int (nI se), .int (nI k), .int (nI (i + 1))]) rfl rfl rfl ?_
      refine wq_goto rfl ?_
      rw [kP_f (i := i) c13]
      exact ih (i + 1) (by omega)
theorem r_Kin_part {d b : Nat} {pre suf : mH} {rt : Nat → Nat} {sc : Nat → Nat → Nat} {wf : Nat → Nat} {ws : Nat → Nat} {Q : Option Value → mH → Prop} (hb : pre.length = b) {fi se k : Nat} (hf : fi < 512) (hs : se < 512) (hQ : Q none (kW b pre rt (kP sc fi se k 9) wf ws suf)) : Rn mprog (d + 3) n_Kin_part [.ref b, .int (nI fi), .int (nI se), .int (nI k)] (kW b pre rt sc wf ws suf) Q := by
  refine Rn.in rfl rfl rfl ?_
  show WP _ _ _ _ 0 [.ref b, .int (nI fi), .int (nI se), .int (nI k), .long 0] [] (kW b pre rt sc wf ws suf)
  refine wq_iconst (v := nI 0) rfl (by decide) ?_
  refine wq_istore (lv' := [.ref b, .int (nI fi), .int (nI se), .int (nI k), .int (nI 0)]) rfl rfl rfl ?_
  have q := l_Kin_part (d := d) hb hf hs hQ 9 0 rfl
  rw [kP_0] at q
  exact q
def mxS (oth : Nat) (r : Nat → Nat) : Nat → Nat
  | 0 => 0
  | i + 1 => if oth.testBit i = true then max (mxS oth r i) (r i) else mxS oth r i
theorem mxS_le {oth m : Nat} {r : Nat → Nat} (h : ∀ q, q < 9 → r q ≤ m) : ∀ i, i ≤ 9 → mxS oth r i ≤ m
  | 0, _ => Nat.zero_le _
  | i + 1, hi => by
    have h1 := h i (by omega)
    have h2 := mxS_le (oth := oth) h i (by omega)
    unfold mxS
    split
    · omega
    · exact h2
theorem l_Kin_bog {d b : Nat} {pre suf : mH} {rt : Nat → Nat} {sc : Nat → Nat → Nat} {wf : Nat → Nat} {ws : Nat → Nat} {Q : Option Value → mH → Prop} (hb : pre.length = b) {p oth : Nat} (hp : p < 9) (ho : oth < 512) (hk : ∀ q, q < 9 → sc p q < 1000) (hQ : Q (some (.int (nI (if 0 < mxS oth (sc p) 9 then mxS oth (sc p) 9 else rt p)))) (kW b pre rt sc wf ws suf)) : ∀ (n i : Nat), i + n = 9 → WP (Rn mprog (d + 2)) k_Kin_beginOfGoing (some .int) Q 5 [.ref b, .int (nI p), .int (nI oth), .int (nI (mxS oth (sc p) i)), .int (nI i)] [] (kW b pre rt sc wf ws suf) := by
  intro n
  induction n with
  | zero =>
    intro i hi
    have e : i = 9 := by omega
    subst e
    have hm := mxS_le (oth := oth) (m := 999) (r := sc p) (fun q hq => by have := hk q hq; omega) 9 (Nat.le_refl 9)
    refine wq_iload rfl rfl ?_
    refine wq_bipush (v := nI 9) rfl (by decide) ?_
    refine wq_ic_ge rfl (fun _ => ?_) (fun c => absurd c (by decide))
    refine wq_iload_n rfl rfl ?_
    refine wn_if_le rfl (by omega) (fun c40 => ?_) (fun c40 => ?_)
    · skip
      refine wq_aload_n rfl rfl ?_
      refine wq_iload_n rfl rfl ?_
      refine wq_virt (b := b) (a := [.int (nI p)]) (rest := []) rfl rfl rfl rfl rfl (kW_o0 hb) ?_
      refine r_Kin_rootOf hb (by omega) ?_
      show WP _ _ _ _ 52 [.ref b, .int (nI p), .int (nI oth), .int (nI (mxS oth (sc p) 9)), .int (nI 9)] [.int (nI (rt p))] (kW b pre rt sc wf ws suf)
      refine wq_iret rfl trivial ?_
      rw [if_neg (by omega)] at hQ
      exact hQ
    · skip
      refine wq_iload_n rfl rfl ?_
      refine wq_goto rfl ?_
      refine wq_iret rfl trivial ?_
      rw [if_pos c40] at hQ
      exact hQ
  | succ n ih =>
    intro i hi
    have hm := mxS_le (oth := oth) (m := 999) (r := sc p) (fun q hq => by have := hk q hq; omega) i (by omega)
    have hki := hk i (by omega)
    refine wq_iload rfl rfl ?_
    refine wq_bipush (v := nI 9) rfl (by decide) ?_
    refine wn_ic_ge rfl (by omega) (by omega) (fun c9 => absurd c9 (by omega)) (fun c9 => ?_)
    refine wq_iload_n rfl rfl ?_
    refine wq_iload rfl rfl ?_
    refine wq_stat (a := [.int (nI oth), .int (nI i)]) (rest := []) rfl rfl rfl rfl rfl ?_
    refine r_Z_isIn (by omega) (by omega) (fun c15 => ?_) (fun c15 => ?_)
    · skip
      show WP _ _ _ _ 18 [.ref b, .int (nI p), .int (nI oth), .int (nI (mxS oth (sc p) i)), .int (nI i)] [.int (nI 1)] (kW b pre rt sc wf ws suf)
      refine wq_if_eq rfl (fun c => absurd c (by decide)) (fun _ => ?_)
      refine wq_iload_n rfl rfl ?_
      refine wq_aload_n rfl rfl ?_
      refine wq_iload_n rfl rfl ?_
      refine wq_iload rfl rfl ?_
      refine wq_virt (b := b) (a := [.int (nI p), .int (nI i)]) (rest := [.int (nI (mxS oth (sc p) i))]) rfl rfl rfl rfl rfl (kW_o0 hb) ?_
      refine r_Kin_sinceOf hb (by omega) (by omega) ?_
      show WP _ _ _ _ 29 [.ref b, .int (nI p), .int (nI oth), .int (nI (mxS oth (sc p) i)), .int (nI i)] [.int (nI (sc p i)), .int (nI (mxS oth (sc p) i))] (kW b pre rt sc wf ws suf)
      refine wn_max rfl rfl (by omega) (by omega) rfl ?_
      refine wq_istore_n (lv' := [.ref b, .int (nI p), .int (nI oth), .int (nI (max (mxS oth (sc p) i) (sc p i))), .int (nI i)]) rfl rfl rfl ?_
      refine wn_inc (lv' := [.ref b, .int (nI p), .int (nI oth), .int (nI (max (mxS oth (sc p) i) (sc p i))), .int (nI (i + 1))]) rfl rfl rfl ?_
      refine wq_goto rfl ?_
      have e : max (mxS oth (sc p) i) (sc p i) = mxS oth (sc p) (i + 1) := by
        show _ = if oth.testBit i = true then max (mxS oth (sc p) i) (sc p i) else mxS oth (sc p) i
        rw [c15]
        rfl
      rw [e]
      exact ih (i + 1) (by omega)
    · skip
      show WP _ _ _ _ 18 [.ref b, .int (nI p), .int (nI oth), .int (nI (mxS oth (sc p) i)), .int (nI i)] [.int (nI 0)] (kW b pre rt sc wf ws suf)
      refine wq_if_eq rfl (fun _ => ?_) (fun c => absurd c (by decide))
      refine wn_inc (lv' := [.ref b, .int (nI p), .int (nI oth), .int (nI (mxS oth (sc p) i)), .int (nI (i + 1))]) rfl rfl rfl ?_
      refine wq_goto rfl ?_
      have e : mxS oth (sc p) i = mxS oth (sc p) (i + 1) := by
        show _ = if oth.testBit i = true then max (mxS oth (sc p) i) (sc p i) else mxS oth (sc p) i
        rw [c15]
        rfl
      rw [e]
      exact ih (i + 1) (by omega)
theorem r_Kin_bog {d b : Nat} {pre suf : mH} {rt : Nat → Nat} {sc : Nat → Nat → Nat} {wf : Nat → Nat} {ws : Nat → Nat} {Q : Option Value → mH → Prop} (hb : pre.length = b) {p oth : Nat} (hp : p < 9) (ho : oth < 512) (hk : ∀ q, q < 9 → sc p q < 1000) (hQ : Q (some (.int (nI (if 0 < mxS oth (sc p) 9 then mxS oth (sc p) 9 else rt p)))) (kW b pre rt sc wf ws suf)) : Rn mprog (d + 3) n_Kin_beginOfGoing [.ref b, .int (nI p), .int (nI oth)] (kW b pre rt sc wf ws suf) Q := by
  refine Rn.in rfl rfl rfl ?_
  show WP _ _ _ _ 0 [.ref b, .int (nI p), .int (nI oth), .long 0, .long 0] [] (kW b pre rt sc wf ws suf)
  refine wq_iconst (v := nI 0) rfl (by decide) ?_
  refine wq_istore_n (lv' := [.ref b, .int (nI p), .int (nI oth), .int (nI 0), .long 0]) rfl rfl rfl ?_
  refine wq_iconst (v := nI 0) rfl (by decide) ?_
  refine wq_istore (lv' := [.ref b, .int (nI p), .int (nI oth), .int (nI 0), .int (nI 0)]) rfl rfl rfl ?_
  exact l_Kin_bog hb hp ho hk hQ 9 0 rfl
theorem r_Kin_boj {d b : Nat} {pre suf : mH} {rt : Nat → Nat} {sc : Nat → Nat → Nat} {wf : Nat → Nat} {ws : Nat → Nat} {Q : Option Value → mH → Prop} (hb : pre.length = b) {p q : Nat} (hp : p < 9) (hq : q < 9) (hk : sc p q < 1000) (h1 : rt p < 1000) (h2 : rt q < 1000) (hQ : Q (some (.int (nI (if 0 < sc p q then sc p q else max (rt p) (rt q))))) (kW b pre rt sc wf ws suf)) : Rn mprog (d + 3) n_Kin_beginOfJoining [.ref b, .int (nI p), .int (nI q)] (kW b pre rt sc wf ws suf) Q := by
  refine Rn.in rfl rfl rfl ?_
  show WP _ _ _ _ 0 [.ref b, .int (nI p), .int (nI q), .long 0] [] (kW b pre rt sc wf ws suf)
  refine wq_aload_n rfl rfl ?_
  refine wq_iload_n rfl rfl ?_
  refine wq_iload_n rfl rfl ?_
  refine wq_virt (b := b) (a := [.int (nI p), .int (nI q)]) (rest := []) rfl rfl rfl rfl rfl (kW_o0 hb) ?_
  refine r_Kin_sinceOf hb (by omega) (by omega) ?_
  show WP _ _ _ _ 6 [.ref b, .int (nI p), .int (nI q), .long 0] [.int (nI (sc p q))] (kW b pre rt sc wf ws suf)
  refine wq_istore_n (lv' := [.ref b, .int (nI p), .int (nI q), .int (nI (sc p q))]) rfl rfl rfl ?_
  refine wq_iload_n rfl rfl ?_
  refine wn_if_le rfl (by omega) (fun c8 => ?_) (fun c8 => ?_)
  · skip
    refine wq_aload_n rfl rfl ?_
    refine wq_iload_n rfl rfl ?_
    refine wq_virt (b := b) (a := [.int (nI p)]) (rest := []) rfl rfl rfl rfl rfl (kW_o0 hb) ?_
    refine r_Kin_rootOf hb (by omega) ?_
    show WP _ _ _ _ 20 [.ref b, .int (nI p), .int (nI q), .int (nI (sc p q))] [.int (nI (rt p))] (kW b pre rt sc wf ws suf)
    refine wq_aload_n rfl rfl ?_
    refine wq_iload_n rfl rfl ?_
    refine wq_virt (b := b) (a := [.int (nI q)]) (rest := [.int (nI (rt p))]) rfl rfl rfl rfl rfl (kW_o0 hb) ?_
    refine r_Kin_rootOf hb (by omega) ?_
    show WP _ _ _ _ 25 [.ref b, .int (nI p), .int (nI q), .int (nI (sc p q))] [.int (nI (rt q)), .int (nI (rt p))] (kW b pre rt sc wf ws suf)
    refine wn_max rfl rfl (by omega) (by omega) rfl ?_
    refine wq_iret rfl trivial ?_
    rw [if_neg (by omega)] at hQ
    exact hQ
  · skip
    refine wq_iload_n rfl rfl ?_
    refine wq_goto rfl ?_
    refine wq_iret rfl trivial ?_
    rw [if_pos c8] at hQ
    exact hQ
