/-! Row -/
theorem r_Row_empty {d b : Nat} {pre suf : mH} {rn : Nat} {ra : Nat → Nat} {Q : Option Value → mH → Prop} (hb : pre.length = b) (hQ : Q none (rW b pre 0 ra suf)) : Rn mprog (d + 1) n_Row_empty [.ref b] (rW b pre rn ra suf) Q := by
  refine Rn.in rfl rfl rfl ?_
  show WP _ _ _ _ 0 [.ref b] [] (rW b pre rn ra suf)
  refine wq_aload_n rfl rfl ?_
  refine wq_iconst (v := nI 0) rfl (by decide) ?_
  refine wq_putfield (h' := rW b pre 0 ra suf) rfl (rW_o0 hb) rfl (rW_s0_1 hb) ?_
  refine wq_vret rfl rfl ?_
  exact hQ
theorem r_Row_add {d b : Nat} {pre suf : mH} {rn : Nat} {ra : Nat → Nat} {Q : Option Value → mH → Prop} (hb : pre.length = b) {v : Nat} (hn : rn < 40) (hQ : Q none (rW b pre (rn + 1) (uN' ra rn v) suf)) : Rn mprog (d + 1) n_Row_add [.ref b, .int (nI v)] (rW b pre rn ra suf) Q := by
  refine Rn.in rfl rfl rfl ?_
  show WP _ _ _ _ 0 [.ref b, .int (nI v)] [] (rW b pre rn ra suf)
  refine wq_aload_n rfl rfl ?_
  refine wq_getfield (v := .int (nI rn)) rfl (rW_o0 hb) rfl ?_
  refine wn_if_lt rfl (by omega) ?_
  refine wq_aload_n rfl rfl ?_
  refine wq_getfield (v := .int (nI rn)) rfl (rW_o0 hb) rfl ?_
  refine wq_aload_n rfl rfl ?_
  refine wq_getfield (v := .ref (b + 1)) rfl (rW_o0 hb) rfl ?_
  refine wq_alen (v := nI 40) rfl (rW_a1 hb) rfl rfl ?_
  refine wn_ic_ge rfl (by omega) (by omega) (fun c16 => absurd c16 (by omega)) (fun c16 => ?_)
  refine wq_aload_n rfl rfl ?_
  refine wq_getfield (v := .ref (b + 1)) rfl (rW_o0 hb) rfl ?_
  refine wq_aload_n rfl rfl ?_
  refine wq_getfield (v := .int (nI rn)) rfl (rW_o0 hb) rfl ?_
  refine wq_iload_n rfl rfl ?_
  refine wn_iastore (g := ra) (h' := rW b pre rn (uN' ra rn v) suf) rfl (rW_a1 hb) (by omega) (by decide) (rW_t1 hb) ?_
  refine wq_aload_n rfl rfl ?_
  refine wq_dup rfl rfl ?_
  refine wq_getfield (v := .int (nI rn)) rfl (rW_o0 hb) rfl ?_
  refine wq_iconst (v := nI 1) rfl (by decide) ?_
  refine wn_iadd rfl ?_
  refine wq_putfield (h' := rW b pre (rn + 1) (uN' ra rn v) suf) rfl (rW_o0 hb) rfl (rW_s0_1 hb) ?_
  refine wq_vret rfl rfl ?_
  exact hQ
theorem r_Row_removeLast {d b : Nat} {pre suf : mH} {rn : Nat} {ra : Nat → Nat} {Q : Option Value → mH → Prop} (hb : pre.length = b) (hn : 0 < rn) (hl : rn ≤ 40) (hQ : Q none (rW b pre (rn - 1) ra suf)) : Rn mprog (d + 1) n_Row_removeLast [.ref b] (rW b pre rn ra suf) Q := by
  refine Rn.in rfl rfl rfl ?_
  show WP _ _ _ _ 0 [.ref b] [] (rW b pre rn ra suf)
  refine wq_aload_n rfl rfl ?_
  refine wq_getfield (v := .int (nI rn)) rfl (rW_o0 hb) rfl ?_
  refine wn_if_le rfl (by omega) (fun c4 => absurd c4 (by omega)) (fun c4 => ?_)
  refine wq_aload_n rfl rfl ?_
  refine wq_dup rfl rfl ?_
  refine wq_getfield (v := .int (nI rn)) rfl (rW_o0 hb) rfl ?_
  refine wq_iconst (v := nI 1) rfl (by decide) ?_
  refine wn_isub rfl (by omega) ?_
  refine wq_putfield (h' := rW b pre (rn - 1) ra suf) rfl (rW_o0 hb) rfl (rW_s0_1 hb) ?_
  refine wq_vret rfl rfl ?_
  exact hQ
theorem r_Row_swap {d b : Nat} {pre suf : mH} {rn : Nat} {ra : Nat → Nat} {Q : Option Value → mH → Prop} (hb : pre.length = b) {k : Nat} (h1 : 1 ≤ k) (h2 : k < rn) (hl : rn ≤ 40) (hQ : Q none (rW b pre rn (uN' (uN' ra (k - 1) (ra k)) k (ra (k - 1))) suf)) : Rn mprog (d + 1) n_Row_swapWithNext [.ref b, .int (nI k)] (rW b pre rn ra suf) Q := by
  refine Rn.in rfl rfl rfl ?_
  show WP _ _ _ _ 0 [.ref b, .int (nI k), .long 0] [] (rW b pre rn ra suf)
  refine wq_iload_n rfl rfl ?_
  refine wq_iconst (v := nI 1) rfl (by decide) ?_
  refine wn_ic_lt rfl (by omega) (by omega) (fun c2 => absurd c2 (by omega)) (fun c2 => ?_)
  refine wq_iload_n rfl rfl ?_
  refine wq_aload_n rfl rfl ?_
  refine wq_getfield (v := .int (nI rn)) rfl (rW_o0 hb) rfl ?_
  refine wn_ic_ge rfl (by omega) (by omega) (fun c10 => absurd c10 (by omega)) (fun c10 => ?_)
  refine wq_iload_n rfl rfl ?_
  refine wq_aload_n rfl rfl ?_
  refine wq_getfield (v := .ref (b + 1)) rfl (rW_o0 hb) rfl ?_
  refine wq_alen (v := nI 40) rfl (rW_a1 hb) rfl rfl ?_
  refine wn_ic_ge rfl (by omega) (by omega) (fun c19 => absurd c19 (by omega)) (fun c19 => ?_)
  refine wq_aload_n rfl rfl ?_
  refine wq_getfield (v := .ref (b + 1)) rfl (rW_o0 hb) rfl ?_
  refine wq_iload_n rfl rfl ?_
  refine wq_iconst (v := nI 1) rfl (by decide) ?_
  refine wn_isub rfl (by omega) ?_
  refine wn_iaload (g := ra) rfl (rW_a1 hb) (by omega) (by decide) ?_
  refine wq_istore_n (lv' := [.ref b, .int (nI k), .int (nI (ra (k - 1)))]) rfl rfl rfl ?_
  refine wq_aload_n rfl rfl ?_
  refine wq_getfield (v := .ref (b + 1)) rfl (rW_o0 hb) rfl ?_
  refine wq_iload_n rfl rfl ?_
  refine wq_iconst (v := nI 1) rfl (by decide) ?_
  refine wn_isub rfl (by omega) ?_
  refine wq_aload_n rfl rfl ?_
  refine wq_getfield (v := .ref (b + 1)) rfl (rW_o0 hb) rfl ?_
  refine wq_iload_n rfl rfl ?_
  refine wn_iaload (g := ra) rfl (rW_a1 hb) (by omega) (by decide) ?_
  refine wn_iastore (g := ra) (h' := rW b pre rn (uN' ra (k - 1) (ra k)) suf) rfl (rW_a1 hb) (by omega) (by decide) (rW_t1 hb) ?_
  refine wq_aload_n rfl rfl ?_
  refine wq_getfield (v := .ref (b + 1)) rfl (rW_o0 hb) rfl ?_
  refine wq_iload_n rfl rfl ?_
  refine wq_iload_n rfl rfl ?_
  refine wn_iastore (g := (uN' ra (k - 1) (ra k))) (h' := rW b pre rn (uN' ((uN' ra (k - 1) (ra k))) k (ra (k - 1))) suf) rfl (rW_a1 hb) (by omega) (by decide) (rW_t1 hb) ?_
  refine wq_vret rfl rfl ?_
  exact hQ
theorem r_Row_size {d c rn : Nat} {ra : Nat → Nat} {h : mH} {Q : Option Value → mH → Prop} (ho : h[c]? = some (.inr (3, [.ref (c + 1), .int (nI rn)]))) (hQ : Q (some (.int (nI rn))) h) : Rn mprog (d + 1) n_Row_size [.ref c] h Q := by
  refine Rn.in rfl rfl rfl ?_
  show WP _ _ _ _ 0 [.ref c] [] h
  refine wq_aload_n rfl rfl ?_
  refine wq_getfield (v := .int (nI rn)) rfl ho rfl ?_
  refine wq_iret rfl trivial ?_
  exact hQ
theorem r_Row_actAt {d c rn : Nat} {ra : Nat → Nat} {h : mH} {Q : Option Value → mH → Prop} (ho : h[c]? = some (.inr (3, [.ref (c + 1), .int (nI rn)]))) (h1 : h[c + 1]? = some (.inl (0, 40, .inl (nA ra)))) {k : Nat} (hk : 1 ≤ k) (hk2 : k ≤ rn) (hn : rn ≤ 40) (hQ : Q (some (.int (nI (ra (k - 1))))) h) : Rn mprog (d + 1) n_Row_actAt [.ref c, .int (nI k)] h Q := by
  refine Rn.in rfl rfl rfl ?_
  show WP _ _ _ _ 0 [.ref c, .int (nI k)] [] h
  refine wq_iload_n rfl rfl ?_
  refine wq_iconst (v := nI 1) rfl (by decide) ?_
  refine wn_ic_lt rfl (by omega) (by omega) (fun c2 => absurd c2 (by omega)) (fun c2 => ?_)
  refine wq_iload_n rfl rfl ?_
  refine wq_aload_n rfl rfl ?_
  refine wq_getfield (v := .int (nI rn)) rfl ho rfl ?_
  refine wn_ic_gt rfl (by omega) (by omega) (fun c10 => absurd c10 (by omega)) (fun c10 => ?_)
  refine wq_iload_n rfl rfl ?_
  refine wq_aload_n rfl rfl ?_
  refine wq_getfield (v := .ref (c + 1)) rfl ho rfl ?_
  refine wq_alen (v := nI 40) rfl h1 rfl rfl ?_
  refine wn_ic_gt rfl (by omega) (by omega) (fun c19 => absurd c19 (by omega)) (fun c19 => ?_)
  refine wq_aload_n rfl rfl ?_
  refine wq_getfield (v := .ref (c + 1)) rfl ho rfl ?_
  refine wq_iload_n rfl rfl ?_
  refine wq_iconst (v := nI 1) rfl (by decide) ?_
  refine wn_isub rfl (by omega) ?_
  refine wn_iaload (g := ra) rfl h1 (by omega) (by decide) ?_
  refine wq_goto rfl ?_
  refine wq_iret rfl trivial ?_
  exact hQ
def cpA (g r : Nat → Nat) (i : Nat) : Nat → Nat := fun j => if j < i then g j else r j
theorem cpA_0 (g r : Nat → Nat) : cpA g r 0 = r := by
  funext j
  unfold cpA
  rw [if_neg (Nat.not_lt_zero j)]
theorem cpA_s (g r : Nat → Nat) (i : Nat) : uN' (cpA g r i) i (g i) = cpA g r (i + 1) := by
  funext j
  unfold uN' cpA
  by_cases h : j = i
  · rw [if_pos h, if_pos (by omega), h]
  · rw [if_neg h]
    by_cases h2 : j < i
    · rw [if_pos h2, if_pos (by omega)]
    · rw [if_neg h2, if_neg (by omega)]
theorem l_Row_copy {d b : Nat} {pre suf : mH} {rn : Nat} {ra : Nat → Nat} {Q : Option Value → mH → Prop} (hb : pre.length = b) {c m : Nat} {g : Nat → Nat} (hm : m ≤ 40) (hc : ∀ x y, (rW b pre x y suf)[c]? = some (.inr (3, [.ref (c + 1), .int (nI m)]))) (hc1 : ∀ x y, (rW b pre x y suf)[c + 1]? = some (.inl (0, 40, .inl (nA g)))) (hQ : Q none (rW b pre m (cpA g ra m) suf)) : ∀ (n i : Nat), i + n = m → WP (Rn mprog (d + 1)) k_Row_copy none Q 6 [.ref b, .ref c, .int (nI (i + 1))] [] (rW b pre i (cpA g ra i) suf) := by
  intro n
  induction n with
  | zero =>
    intro i hi
    have e : i = m := by omega
    subst e
    refine wq_iload_n rfl rfl ?_
    refine wq_aload_n rfl rfl ?_
    refine wq_getfield (v := .int (nI i)) rfl (hc _ _) rfl ?_
    refine wn_ic_gt rfl (by omega) (by omega) (fun c11 => ?_) (fun c11 => absurd c11 (by omega))
    refine wq_vret rfl rfl ?_
    exact hQ
  | succ n ih =>
    intro i hi
    refine wq_iload_n rfl rfl ?_
    refine wq_aload_n rfl rfl ?_
    refine wq_getfield (v := .int (nI m)) rfl (hc _ _) rfl ?_
    refine wn_ic_gt rfl (by omega) (by omega) (fun c11 => absurd c11 (by omega)) (fun c11 => ?_)
    refine wq_aload_n rfl rfl ?_
    refine wq_aload_n rfl rfl ?_
    refine wq_iload_n rfl rfl ?_
    refine wq_virt (b := c) (a := [.int (nI (i + 1))]) (rest := [.ref b]) rfl rfl rfl rfl rfl (hc _ _) ?_
    refine r_Row_actAt (hc _ _) (hc1 _ _) (by omega) (by omega) hm ?_
    show WP _ _ _ _ 20 [.ref b, .ref c, .int (nI (i + 1))] [.int (nI (g i)), .ref b] (rW b pre i (cpA g ra i) suf)
    refine wq_virt (b := b) (a := [.int (nI (g i))]) (rest := []) rfl rfl rfl rfl rfl (rW_o0 hb) ?_
    refine r_Row_add hb (by omega) ?_
    show WP _ _ _ _ 23 [.ref b, .ref c, .int (nI (i + 1))] [] (rW b pre (i + 1) (uN' (cpA g ra i) i (g i)) suf)
    refine wn_inc (lv' := [.ref b, .ref c, .int (nI (i + 1 + 1))]) rfl rfl rfl ?_
    refine wq_goto rfl ?_
    rw [cpA_s]
    exact ih (i + 1) (by omega)
theorem r_Row_copy {d b : Nat} {pre suf : mH} {rn : Nat} {ra : Nat → Nat} {Q : Option Value → mH → Prop} (hb : pre.length = b) {c m : Nat} {g : Nat → Nat} (hm : m ≤ 40) (hc : ∀ x y, (rW b pre x y suf)[c]? = some (.inr (3, [.ref (c + 1), .int (nI m)]))) (hc1 : ∀ x y, (rW b pre x y suf)[c + 1]? = some (.inl (0, 40, .inl (nA g)))) (hQ : Q none (rW b pre m (cpA g ra m) suf)) : Rn mprog (d + 2) n_Row_copy [.ref b, .ref c] (rW b pre rn ra suf) Q := by
  refine Rn.in rfl rfl rfl ?_
  show WP _ _ _ _ 0 [.ref b, .ref c, .long 0] [] (rW b pre rn ra suf)
  refine wq_aload_n rfl rfl ?_
  refine wq_virt (b := b) (a := []) (rest := []) rfl rfl rfl rfl rfl (rW_o0 hb) ?_
  refine r_Row_empty hb ?_
  show WP _ _ _ _ 4 [.ref b, .ref c, .long 0] [] (rW b pre 0 ra suf)
  refine wq_iconst (v := nI 1) rfl (by decide) ?_
  refine wq_istore_n (lv' := [.ref b, .ref c, .int (nI 1)]) rfl rfl rfl ?_
  have q := l_Row_copy (d := d) (rn := 0) hb hm hc hc1 hQ m 0 (by omega)
  rw [cpA_0] at q
  exact q
theorem r_Net_pieceOf_no {d b : Nat} {pre suf : mH} {pts : Nat} {edg : Nat} {nr : Nat → Nat} {Q : Option Value → mH → Prop} (hb : pre.length = b) {p0 : Nat} (hp0 : p0 < 9) (hpt : pts < 512) (hin : pts.testBit p0 = false) (hQ : Q (some (.int (nI 0))) (nW b pre pts edg nr suf)) : Rn mprog (d + 4) n_Net_pieceOf [.ref b, .int (nI p0)] (nW b pre pts edg nr suf) Q := by
  refine Rn.in rfl rfl rfl ?_
  show WP _ _ _ _ 0 [.ref b, .int (nI p0), .long 0, .long 0, .long 0, .long 0] [] (nW b pre pts edg nr suf)
  refine wq_aload_n rfl rfl ?_
  refine wq_iload_n rfl rfl ?_
  refine wq_virt (b := b) (a := [.int (nI p0)]) (rest := []) rfl rfl rfl rfl rfl (nW_o0 hb) ?_
  refine r_Net_has hb (by omega) (by omega) (fun c2 => absurd c2 (by rw [hin]; decide)) (fun c2 => ?_)
  show WP _ _ _ _ 5 [.ref b, .int (nI p0), .long 0, .long 0, .long 0, .long 0] [.int (nI 0)] (nW b pre pts edg nr suf)
  refine wq_if_ne rfl (fun c => absurd c (by decide)) (fun _ => ?_)
  refine wq_iconst (v := nI 0) rfl (by decide) ?_
  refine wq_iret rfl trivial ?_
  exact hQ
def sW (b : Nat) (pre : mH) (pts : Nat) (edg : Nat) (nr : Nat → Nat) (rt : Nat → Nat) (sc : Nat → Nat → Nat) (wf : Nat → Nat) (ws : Nat → Nat) (bsz : Nat) (bop : Nat) (bbg : Nat → Nat) (ben : Nat → Nat) (suf : mH) : mH := pre ++ (.inr (5, [.ref (b + 1), .ref (b + 3), .ref (b + 8)]) :: .inr (2, [.ref (b + 2), .int (nI pts), .int (nI edg)]) :: .inl (0, 9, .inl (nA nr)) :: .inr (1, [.ref (b + 4), .ref (b + 5), .ref (b + 6), .ref (b + 7)]) :: .inl (0, 9, .inl (nA rt)) :: .inl (0, 81, .inl (nA (K2 sc))) :: .inl (0, 9, .inl (nA wf)) :: .inl (0, 9, .inl (nA ws)) :: .inr (0, [.ref (b + 9), .ref (b + 10), .int (nI bsz), .int (nI bop)]) :: .inl (0, 40, .inl (nA bbg)) :: .inl (0, 40, .inl (nA ben)) :: suf)
theorem sW_o0 {b : Nat} {pre suf : mH} {pts : Nat} {edg : Nat} {nr : Nat → Nat} {rt : Nat → Nat} {sc : Nat → Nat → Nat} {wf : Nat → Nat} {ws : Nat → Nat} {bsz : Nat} {bop : Nat} {bbg : Nat → Nat} {ben : Nat → Nat} (hb : pre.length = b) : (sW b pre pts edg nr rt sc wf ws bsz bop bbg ben suf)[b]? = some (.inr (5, [.ref (b + 1), .ref (b + 3), .ref (b + 8)])) := ap_get0 hb
theorem sW_o1 {b : Nat} {pre suf : mH} {pts : Nat} {edg : Nat} {nr : Nat → Nat} {rt : Nat → Nat} {sc : Nat → Nat → Nat} {wf : Nat → Nat} {ws : Nat → Nat} {bsz : Nat} {bop : Nat} {bbg : Nat → Nat} {ben : Nat → Nat} (hb : pre.length = b) : (sW b pre pts edg nr rt sc wf ws bsz bop bbg ben suf)[b + 1]? = some (.inr (2, [.ref (b + 2), .int (nI pts), .int (nI edg)])) := ap_get hb
theorem sW_s1_1 {b : Nat} {pre suf : mH} {pts : Nat} {edg : Nat} {nr : Nat → Nat} {rt : Nat → Nat} {sc : Nat → Nat → Nat} {wf : Nat → Nat} {ws : Nat → Nat} {bsz : Nat} {bop : Nat} {bbg : Nat → Nat} {ben : Nat → Nat} (hb : pre.length = b) {v : Nat} : (sW b pre pts edg nr rt sc wf ws bsz bop bbg ben suf).set (b + 1) (.inr (2, [.ref (b + 2), .int (nI pts), .int (nI edg)].set 1 (.int (nI v)))) = sW b pre v edg nr rt sc wf ws bsz bop bbg ben suf := ap_set hb
theorem sW_s1_2 {b : Nat} {pre suf : mH} {pts : Nat} {edg : Nat} {nr : Nat → Nat} {rt : Nat → Nat} {sc : Nat → Nat → Nat} {wf : Nat → Nat} {ws : Nat → Nat} {bsz : Nat} {bop : Nat} {bbg : Nat → Nat} {ben : Nat → Nat} (hb : pre.length = b) {v : Nat} : (sW b pre pts edg nr rt sc wf ws bsz bop bbg ben suf).set (b + 1) (.inr (2, [.ref (b + 2), .int (nI pts), .int (nI edg)].set 2 (.int (nI v)))) = sW b pre pts v nr rt sc wf ws bsz bop bbg ben suf := ap_set hb
theorem sW_a2 {b : Nat} {pre suf : mH} {pts : Nat} {edg : Nat} {nr : Nat → Nat} {rt : Nat → Nat} {sc : Nat → Nat → Nat} {wf : Nat → Nat} {ws : Nat → Nat} {bsz : Nat} {bop : Nat} {bbg : Nat → Nat} {ben : Nat → Nat} (hb : pre.length = b) : (sW b pre pts edg nr rt sc wf ws bsz bop bbg ben suf)[b + 2]? = some (.inl (0, 9, .inl (nA nr))) := ap_get hb
theorem sW_t2 {b : Nat} {pre suf : mH} {pts : Nat} {edg : Nat} {nr : Nat → Nat} {rt : Nat → Nat} {sc : Nat → Nat → Nat} {wf : Nat → Nat} {ws : Nat → Nat} {bsz : Nat} {bop : Nat} {bbg : Nat → Nat} {ben : Nat → Nat} (hb : pre.length = b) {g : Nat → Nat} : (sW b pre pts edg nr rt sc wf ws bsz bop bbg ben suf).set (b + 2) (.inl (0, 9, .inl (nA g))) = sW b pre pts edg g rt sc wf ws bsz bop bbg ben suf := ap_set hb
theorem sW_o3 {b : Nat} {pre suf : mH} {pts : Nat} {edg : Nat} {nr : Nat → Nat} {rt : Nat → Nat} {sc : Nat → Nat → Nat} {wf : Nat → Nat} {ws : Nat → Nat} {bsz : Nat} {bop : Nat} {bbg : Nat → Nat} {ben : Nat → Nat} (hb : pre.length = b) : (sW b pre pts edg nr rt sc wf ws bsz bop bbg ben suf)[b + 3]? = some (.inr (1, [.ref (b + 4), .ref (b + 5), .ref (b + 6), .ref (b + 7)])) := ap_get hb
theorem sW_a4 {b : Nat} {pre suf : mH} {pts : Nat} {edg : Nat} {nr : Nat → Nat} {rt : Nat → Nat} {sc : Nat → Nat → Nat} {wf : Nat → Nat} {ws : Nat → Nat} {bsz : Nat} {bop : Nat} {bbg : Nat → Nat} {ben : Nat → Nat} (hb : pre.length = b) : (sW b pre pts edg nr rt sc wf ws bsz bop bbg ben suf)[b + 4]? = some (.inl (0, 9, .inl (nA rt))) := ap_get hb
theorem sW_t4 {b : Nat} {pre suf : mH} {pts : Nat} {edg : Nat} {nr : Nat → Nat} {rt : Nat → Nat} {sc : Nat → Nat → Nat} {wf : Nat → Nat} {ws : Nat → Nat} {bsz : Nat} {bop : Nat} {bbg : Nat → Nat} {ben : Nat → Nat} (hb : pre.length = b) {g : Nat → Nat} : (sW b pre pts edg nr rt sc wf ws bsz bop bbg ben suf).set (b + 4) (.inl (0, 9, .inl (nA g))) = sW b pre pts edg nr g sc wf ws bsz bop bbg ben suf := ap_set hb
theorem sW_a5 {b : Nat} {pre suf : mH} {pts : Nat} {edg : Nat} {nr : Nat → Nat} {rt : Nat → Nat} {sc : Nat → Nat → Nat} {wf : Nat → Nat} {ws : Nat → Nat} {bsz : Nat} {bop : Nat} {bbg : Nat → Nat} {ben : Nat → Nat} (hb : pre.length = b) : (sW b pre pts edg nr rt sc wf ws bsz bop bbg ben suf)[b + 5]? = some (.inl (0, 81, .inl (nA (K2 sc)))) := ap_get hb
theorem sW_a6 {b : Nat} {pre suf : mH} {pts : Nat} {edg : Nat} {nr : Nat → Nat} {rt : Nat → Nat} {sc : Nat → Nat → Nat} {wf : Nat → Nat} {ws : Nat → Nat} {bsz : Nat} {bop : Nat} {bbg : Nat → Nat} {ben : Nat → Nat} (hb : pre.length = b) : (sW b pre pts edg nr rt sc wf ws bsz bop bbg ben suf)[b + 6]? = some (.inl (0, 9, .inl (nA wf))) := ap_get hb
theorem sW_t6 {b : Nat} {pre suf : mH} {pts : Nat} {edg : Nat} {nr : Nat → Nat} {rt : Nat → Nat} {sc : Nat → Nat → Nat} {wf : Nat → Nat} {ws : Nat → Nat} {bsz : Nat} {bop : Nat} {bbg : Nat → Nat} {ben : Nat → Nat} (hb : pre.length = b) {g : Nat → Nat} : (sW b pre pts edg nr rt sc wf ws bsz bop bbg ben suf).set (b + 6) (.inl (0, 9, .inl (nA g))) = sW b pre pts edg nr rt sc g ws bsz bop bbg ben suf := ap_set hb
theorem sW_a7 {b : Nat} {pre suf : mH} {pts : Nat} {edg : Nat} {nr : Nat → Nat} {rt : Nat → Nat} {sc : Nat → Nat → Nat} {wf : Nat → Nat} {ws : Nat → Nat} {bsz : Nat} {bop : Nat} {bbg : Nat → Nat} {ben : Nat → Nat} (hb : pre.length = b) : (sW b pre pts edg nr rt sc wf ws bsz bop bbg ben suf)[b + 7]? = some (.inl (0, 9, .inl (nA ws))) := ap_get hb
theorem sW_t7 {b : Nat} {pre suf : mH} {pts : Nat} {edg : Nat} {nr : Nat → Nat} {rt : Nat → Nat} {sc : Nat → Nat → Nat} {wf : Nat → Nat} {ws : Nat → Nat} {bsz : Nat} {bop : Nat} {bbg : Nat → Nat} {ben : Nat → Nat} (hb : pre.length = b) {g : Nat → Nat} : (sW b pre pts edg nr rt sc wf ws bsz bop bbg ben suf).set (b + 7) (.inl (0, 9, .inl (nA g))) = sW b pre pts edg nr rt sc wf g bsz bop bbg ben suf := ap_set hb
theorem sW_o8 {b : Nat} {pre suf : mH} {pts : Nat} {edg : Nat} {nr : Nat → Nat} {rt : Nat → Nat} {sc : Nat → Nat → Nat} {wf : Nat → Nat} {ws : Nat → Nat} {bsz : Nat} {bop : Nat} {bbg : Nat → Nat} {ben : Nat → Nat} (hb : pre.length = b) : (sW b pre pts edg nr rt sc wf ws bsz bop bbg ben suf)[b + 8]? = some (.inr (0, [.ref (b + 9), .ref (b + 10), .int (nI bsz), .int (nI bop)])) := ap_get hb
theorem sW_s8_2 {b : Nat} {pre suf : mH} {pts : Nat} {edg : Nat} {nr : Nat → Nat} {rt : Nat → Nat} {sc : Nat → Nat → Nat} {wf : Nat → Nat} {ws : Nat → Nat} {bsz : Nat} {bop : Nat} {bbg : Nat → Nat} {ben : Nat → Nat} (hb : pre.length = b) {v : Nat} : (sW b pre pts edg nr rt sc wf ws bsz bop bbg ben suf).set (b + 8) (.inr (0, [.ref (b + 9), .ref (b + 10), .int (nI bsz), .int (nI bop)].set 2 (.int (nI v)))) = sW b pre pts edg nr rt sc wf ws v bop bbg ben suf := ap_set hb
theorem sW_s8_3 {b : Nat} {pre suf : mH} {pts : Nat} {edg : Nat} {nr : Nat → Nat} {rt : Nat → Nat} {sc : Nat → Nat → Nat} {wf : Nat → Nat} {ws : Nat → Nat} {bsz : Nat} {bop : Nat} {bbg : Nat → Nat} {ben : Nat → Nat} (hb : pre.length = b) {v : Nat} : (sW b pre pts edg nr rt sc wf ws bsz bop bbg ben suf).set (b + 8) (.inr (0, [.ref (b + 9), .ref (b + 10), .int (nI bsz), .int (nI bop)].set 3 (.int (nI v)))) = sW b pre pts edg nr rt sc wf ws bsz v bbg ben suf := ap_set hb
theorem sW_a9 {b : Nat} {pre suf : mH} {pts : Nat} {edg : Nat} {nr : Nat → Nat} {rt : Nat → Nat} {sc : Nat → Nat → Nat} {wf : Nat → Nat} {ws : Nat → Nat} {bsz : Nat} {bop : Nat} {bbg : Nat → Nat} {ben : Nat → Nat} (hb : pre.length = b) : (sW b pre pts edg nr rt sc wf ws bsz bop bbg ben suf)[b + 9]? = some (.inl (0, 40, .inl (nA bbg))) := ap_get hb
theorem sW_t9 {b : Nat} {pre suf : mH} {pts : Nat} {edg : Nat} {nr : Nat → Nat} {rt : Nat → Nat} {sc : Nat → Nat → Nat} {wf : Nat → Nat} {ws : Nat → Nat} {bsz : Nat} {bop : Nat} {bbg : Nat → Nat} {ben : Nat → Nat} (hb : pre.length = b) {g : Nat → Nat} : (sW b pre pts edg nr rt sc wf ws bsz bop bbg ben suf).set (b + 9) (.inl (0, 40, .inl (nA g))) = sW b pre pts edg nr rt sc wf ws bsz bop g ben suf := ap_set hb
theorem sW_a10 {b : Nat} {pre suf : mH} {pts : Nat} {edg : Nat} {nr : Nat → Nat} {rt : Nat → Nat} {sc : Nat → Nat → Nat} {wf : Nat → Nat} {ws : Nat → Nat} {bsz : Nat} {bop : Nat} {bbg : Nat → Nat} {ben : Nat → Nat} (hb : pre.length = b) : (sW b pre pts edg nr rt sc wf ws bsz bop bbg ben suf)[b + 10]? = some (.inl (0, 40, .inl (nA ben))) := ap_get hb
theorem sW_t10 {b : Nat} {pre suf : mH} {pts : Nat} {edg : Nat} {nr : Nat → Nat} {rt : Nat → Nat} {sc : Nat → Nat → Nat} {wf : Nat → Nat} {ws : Nat → Nat} {bsz : Nat} {bop : Nat} {bbg : Nat → Nat} {ben : Nat → Nat} (hb : pre.length = b) {g : Nat → Nat} : (sW b pre pts edg nr rt sc wf ws bsz bop bbg ben suf).set (b + 10) (.inl (0, 40, .inl (nA g))) = sW b pre pts edg nr rt sc wf ws bsz bop bbg g suf := ap_set hb
theorem sW_n {b : Nat} {pre suf : mH} {pts : Nat} {edg : Nat} {nr : Nat → Nat} {rt : Nat → Nat} {sc : Nat → Nat → Nat} {wf : Nat → Nat} {ws : Nat → Nat} {bsz : Nat} {bop : Nat} {bbg : Nat → Nat} {ben : Nat → Nat} : sW b pre pts edg nr rt sc wf ws bsz bop bbg ben suf = nW (b + 1) (pre ++ [.inr (5, [.ref (b + 1), .ref (b + 3), .ref (b + 8)])]) pts edg nr (.inr (1, [.ref (b + 4), .ref (b + 5), .ref (b + 6), .ref (b + 7)]) :: .inl (0, 9, .inl (nA rt)) :: .inl (0, 81, .inl (nA (K2 sc))) :: .inl (0, 9, .inl (nA wf)) :: .inl (0, 9, .inl (nA ws)) :: .inr (0, [.ref (b + 9), .ref (b + 10), .int (nI bsz), .int (nI bop)]) :: .inl (0, 40, .inl (nA bbg)) :: .inl (0, 40, .inl (nA ben)) :: suf) := (List.append_assoc pre [.inr (5, [.ref (b + 1), .ref (b + 3), .ref (b + 8)])] _).symm
theorem sW_k {b : Nat} {pre suf : mH} {pts : Nat} {edg : Nat} {nr : Nat → Nat} {rt : Nat → Nat} {sc : Nat → Nat → Nat} {wf : Nat → Nat} {ws : Nat → Nat} {bsz : Nat} {bop : Nat} {bbg : Nat → Nat} {ben : Nat → Nat} : sW b pre pts edg nr rt sc wf ws bsz bop bbg ben suf = kW (b + 3) (pre ++ [.inr (5, [.ref (b + 1), .ref (b + 3), .ref (b + 8)]), .inr (2, [.ref (b + 2), .int (nI pts), .int (nI edg)]), .inl (0, 9, .inl (nA nr))]) rt sc wf ws (.inr (0, [.ref (b + 9), .ref (b + 10), .int (nI bsz), .int (nI bop)]) :: .inl (0, 40, .inl (nA bbg)) :: .inl (0, 40, .inl (nA ben)) :: suf) := (List.append_assoc pre [.inr (5, [.ref (b + 1), .ref (b + 3), .ref (b + 8)]), .inr (2, [.ref (b + 2), .int (nI pts), .int (nI edg)]), .inl (0, 9, .inl (nA nr))] _).symm
theorem sW_b {b : Nat} {pre suf : mH} {pts : Nat} {edg : Nat} {nr : Nat → Nat} {rt : Nat → Nat} {sc : Nat → Nat → Nat} {wf : Nat → Nat} {ws : Nat → Nat} {bsz : Nat} {bop : Nat} {bbg : Nat → Nat} {ben : Nat → Nat} : sW b pre pts edg nr rt sc wf ws bsz bop bbg ben suf = bW (b + 8) (pre ++ [.inr (5, [.ref (b + 1), .ref (b + 3), .ref (b + 8)]), .inr (2, [.ref (b + 2), .int (nI pts), .int (nI edg)]), .inl (0, 9, .inl (nA nr)), .inr (1, [.ref (b + 4), .ref (b + 5), .ref (b + 6), .ref (b + 7)]), .inl (0, 9, .inl (nA rt)), .inl (0, 81, .inl (nA (K2 sc))), .inl (0, 9, .inl (nA wf)), .inl (0, 9, .inl (nA ws))]) bsz bop bbg ben suf := (List.append_assoc pre [.inr (5, [.ref (b + 1), .ref (b + 3), .ref (b + 8)]), .inr (2, [.ref (b + 2), .int (nI pts), .int (nI edg)]), .inl (0, 9, .inl (nA nr)), .inr (1, [.ref (b + 4), .ref (b + 5), .ref (b + 6), .ref (b + 7)]), .inl (0, 9, .inl (nA rt)), .inl (0, 81, .inl (nA (K2 sc))), .inl (0, 9, .inl (nA wf)), .inl (0, 9, .inl (nA ws))] _).symm
theorem sW_ln {b : Nat} {pre : mH} {e0 : va_E} (hb : pre.length = b) : (pre ++ [e0]).length = b + 1 := by simp [hb]
theorem sW_lk {b : Nat} {pre : mH} {e0 e1 e2 : va_E} (hb : pre.length = b) : (pre ++ [e0, e1, e2]).length = b + 3 := by simp [hb]
theorem sW_lb {b : Nat} {pre : mH} {e0 e1 e2 e3 e4 e5 e6 e7 : va_E} (hb : pre.length = b) : (pre ++ [e0, e1, e2, e3, e4, e5, e6, e7]).length = b + 8 := by simp [hb]
