/-! Bars -/
theorem r_Bars_empty {d b : Nat} {pre suf : mH} {bsz : Nat} {bop : Nat} {bbg : Nat → Nat} {ben : Nat → Nat} {Q : Option Value → mH → Prop} (hb : pre.length = b) (hQ : Q none (bW b pre 0 0 bbg ben suf)) : Rn mprog (d + 1) n_Bars_empty [.ref b] (bW b pre bsz bop bbg ben suf) Q := by
  refine Rn.in rfl rfl rfl ?_
  show WP _ _ _ _ 0 [.ref b] [] (bW b pre bsz bop bbg ben suf)
  refine wq_aload_n rfl rfl ?_
  refine wq_iconst (v := nI 0) rfl (by decide) ?_
  refine wq_putfield (h' := bW b pre 0 bop bbg ben suf) rfl (bW_o0 hb) rfl (bW_s0_2 hb) ?_
  refine wq_aload_n rfl rfl ?_
  refine wq_iconst (v := nI 0) rfl (by decide) ?_
  refine wq_putfield (h' := bW b pre 0 0 bbg ben suf) rfl (bW_o0 hb) rfl (bW_s0_3 hb) ?_
  refine wq_vret rfl rfl ?_
  exact hQ
theorem r_Bars_size {d b : Nat} {pre suf : mH} {bsz : Nat} {bop : Nat} {bbg : Nat → Nat} {ben : Nat → Nat} {Q : Option Value → mH → Prop} (hb : pre.length = b) (hQ : Q (some (.int (nI bsz))) (bW b pre bsz bop bbg ben suf)) : Rn mprog (d + 1) n_Bars_size [.ref b] (bW b pre bsz bop bbg ben suf) Q := by
  refine Rn.in rfl rfl rfl ?_
  show WP _ _ _ _ 0 [.ref b] [] (bW b pre bsz bop bbg ben suf)
  refine wq_aload_n rfl rfl ?_
  refine wq_getfield (v := .int (nI bsz)) rfl (bW_o0 hb) rfl ?_
  refine wq_iret rfl trivial ?_
  exact hQ
theorem r_Bars_open {d b : Nat} {pre suf : mH} {bsz : Nat} {bop : Nat} {bbg : Nat → Nat} {ben : Nat → Nat} {Q : Option Value → mH → Prop} (hb : pre.length = b) (hQ : Q (some (.int (nI bop))) (bW b pre bsz bop bbg ben suf)) : Rn mprog (d + 1) n_Bars_open [.ref b] (bW b pre bsz bop bbg ben suf) Q := by
  refine Rn.in rfl rfl rfl ?_
  show WP _ _ _ _ 0 [.ref b] [] (bW b pre bsz bop bbg ben suf)
  refine wq_aload_n rfl rfl ?_
  refine wq_getfield (v := .int (nI bop)) rfl (bW_o0 hb) rfl ?_
  refine wq_iret rfl trivial ?_
  exact hQ
theorem r_Bars_beginOf {d c bsz bop : Nat} {bbg ben : Nat → Nat} {h : mH} {Q : Option Value → mH → Prop} (ho : h[c]? = some (.inr (0, [.ref (c + 1), .ref (c + 2), .int (nI bsz), .int (nI bop)]))) (h1 : h[c + 1]? = some (.inl (0, 40, .inl (nA bbg)))) (h2 : h[c + 2]? = some (.inl (0, 40, .inl (nA ben)))) (hn : bsz ≤ 40) {i : Nat} (hi : i < bsz) (hQ : Q (some (.int (nI (bbg i)))) h) : Rn mprog (d + 1) n_Bars_beginOf [.ref c, .int (nI i)] h Q := by
  refine Rn.in rfl rfl rfl ?_
  show WP _ _ _ _ 0 [.ref c, .int (nI i)] [] h
  refine wq_iload_n rfl rfl ?_
  refine wn_if_lt rfl (by omega) ?_
  refine wq_iload_n rfl rfl ?_
  refine wq_aload_n rfl rfl ?_
  refine wq_getfield (v := .int (nI bsz)) rfl ho rfl ?_
  refine wn_ic_ge rfl (by omega) (by omega) (fun c9 => absurd c9 (by omega)) (fun c9 => ?_)
  refine wq_iload_n rfl rfl ?_
  refine wq_aload_n rfl rfl ?_
  refine wq_getfield (v := .ref (c + 1)) rfl ho rfl ?_
  refine wq_alen (v := nI 40) rfl h1 rfl rfl ?_
  refine wn_ic_ge rfl (by omega) (by omega) (fun c18 => absurd c18 (by omega)) (fun c18 => ?_)
  refine wq_aload_n rfl rfl ?_
  refine wq_getfield (v := .ref (c + 1)) rfl ho rfl ?_
  refine wq_iload_n rfl rfl ?_
  refine wn_iaload (g := bbg) rfl h1 (by omega) (by decide) ?_
  refine wq_goto rfl ?_
  refine wq_iret rfl trivial ?_
  exact hQ
theorem r_Bars_endOf {d c bsz bop : Nat} {bbg ben : Nat → Nat} {h : mH} {Q : Option Value → mH → Prop} (ho : h[c]? = some (.inr (0, [.ref (c + 1), .ref (c + 2), .int (nI bsz), .int (nI bop)]))) (h1 : h[c + 1]? = some (.inl (0, 40, .inl (nA bbg)))) (h2 : h[c + 2]? = some (.inl (0, 40, .inl (nA ben)))) (hn : bsz ≤ 40) {i : Nat} (hi : i < bsz) (hQ : Q (some (.int (nI (ben i)))) h) : Rn mprog (d + 1) n_Bars_endOf [.ref c, .int (nI i)] h Q := by
  refine Rn.in rfl rfl rfl ?_
  show WP _ _ _ _ 0 [.ref c, .int (nI i)] [] h
  refine wq_iload_n rfl rfl ?_
  refine wn_if_lt rfl (by omega) ?_
  refine wq_iload_n rfl rfl ?_
  refine wq_aload_n rfl rfl ?_
  refine wq_getfield (v := .int (nI bsz)) rfl ho rfl ?_
  refine wn_ic_ge rfl (by omega) (by omega) (fun c9 => absurd c9 (by omega)) (fun c9 => ?_)
  refine wq_iload_n rfl rfl ?_
  refine wq_aload_n rfl rfl ?_
  refine wq_getfield (v := .ref (c + 2)) rfl ho rfl ?_
  refine wq_alen (v := nI 40) rfl h2 rfl rfl ?_
  refine wn_ic_ge rfl (by omega) (by omega) (fun c18 => absurd c18 (by omega)) (fun c18 => ?_)
  refine wq_aload_n rfl rfl ?_
  refine wq_getfield (v := .ref (c + 2)) rfl ho rfl ?_
  refine wq_iload_n rfl rfl ?_
  refine wn_iaload (g := ben) rfl h2 (by omega) (by decide) ?_
  refine wq_goto rfl ?_
  refine wq_iret rfl trivial ?_
  exact hQ
/-- (a, b) comes behind (x, y) -/
def gtP (a b x y : Nat) : Bool := Nat.blt x a || (Nat.beq a x && Nat.blt y b)
theorem gtP_iff {a b x y : Nat} : gtP a b x y = true ↔ x < a ∨ (a = x ∧ y < b) := by
  unfold gtP
  rw [Bool.or_eq_true, Bool.and_eq_true, nblt, nblt, Nat.beq_eq]
theorem gtP_f {a b x y : Nat} (h : ¬ (x < a ∨ (a = x ∧ y < b))) : gtP a b x y = false := by
  cases e : gtP a b x y
  · rfl
  · exact absurd (gtP_iff.mp e) h
theorem r_cmpN {d x y : Nat} {h : mH} {Q : Option Value → mH → Prop} (hx : x < 2 ^ 31) (hy : y < 2 ^ 31) (k1 : x < y → Q (some (.int (-1))) h) (k2 : x = y → Q (some (.int (nI 0))) h) (k3 : y < x → Q (some (.int (nI 1))) h) : Rn mprog (d + 1) n_Int_compare [.int (nI x), .int (nI y)] h Q :=
  r_compare (fun q => k1 ((nI_ltI hx hy).mp q)) (fun q => k2 ((nI_eq hx hy).mp q)) (fun q1 q2 => k3 (by
    rcases Nat.lt_trichotomy x y with r | r | r
    · exact absurd ((nI_ltI hx hy).mpr r) q1
    · exact absurd ((nI_eq hx hy).mpr r) q2
    · exact r))
theorem r_Bars_compare {d c bsz bop : Nat} {bbg ben : Nat → Nat} {h : mH} {Q : Option Value → mH → Prop} (ho : h[c]? = some (.inr (0, [.ref (c + 1), .ref (c + 2), .int (nI bsz), .int (nI bop)]))) (h1 : h[c + 1]? = some (.inl (0, 40, .inl (nA bbg)))) (h2 : h[c + 2]? = some (.inl (0, 40, .inl (nA ben)))) (hn : bsz ≤ 40) {i x y : Nat} (hi : i < bsz) (hv : bbg i < 2 ^ 31 ∧ ben i < 2 ^ 31) (hx : x < 2 ^ 31) (hy : y < 2 ^ 31) (k1 : (bbg i < x ∨ (bbg i = x ∧ ben i < y)) → Q (some (.int (-1))) h) (k2 : bbg i = x → ben i = y → Q (some (.int (nI 0))) h) (k3 : (x < bbg i ∨ (bbg i = x ∧ y < ben i)) → Q (some (.int (nI 1))) h) : Rn mprog (d + 2) n_Bars_compare [.ref c, .int (nI i), .int (nI x), .int (nI y)] h Q := by
  refine Rn.in rfl rfl rfl ?_
  show WP _ _ _ _ 0 [.ref c, .int (nI i), .int (nI x), .int (nI y), .long 0] [] h
  refine wq_aload_n rfl rfl ?_
  refine wq_iload_n rfl rfl ?_
  refine wq_virt (b := c) (a := [.int (nI i)]) (rest := []) rfl rfl rfl rfl rfl ho ?_
  refine r_Bars_beginOf ho h1 h2 hn (by omega) ?_
  show WP _ _ _ _ 5 [.ref c, .int (nI i), .int (nI x), .int (nI y), .long 0] [.int (nI (bbg i))] h
  refine wq_iload_n rfl rfl ?_
  refine wq_stat (a := [.int (nI (bbg i)), .int (nI x)]) (rest := []) rfl rfl rfl rfl rfl ?_
  refine r_cmpN (by omega) (by omega) (fun c6 => ?_) (fun c6 => ?_) (fun c6 => ?_)
  · skip
    show WP _ _ _ _ 9 [.ref c, .int (nI i), .int (nI x), .int (nI y), .long 0] [.int ((-1))] h
    refine wq_istore (lv' := [.ref c, .int (nI i), .int (nI x), .int (nI y), .int ((-1))]) rfl rfl rfl ?_
    refine wq_iload rfl rfl ?_
    refine wq_if_eq rfl (fun c13 => absurd c13 (by decide)) (fun c13 => ?_)
    refine wq_iload rfl rfl ?_
    refine wq_goto rfl ?_
    refine wq_iret rfl trivial ?_
    exact k1 (Or.inl c6)
  · skip
    show WP _ _ _ _ 9 [.ref c, .int (nI i), .int (nI x), .int (nI y), .long 0] [.int (nI 0)] h
    refine wq_istore (lv' := [.ref c, .int (nI i), .int (nI x), .int (nI y), .int (nI 0)]) rfl rfl rfl ?_
    refine wq_iload rfl rfl ?_
    refine wq_if_eq rfl (fun _ => ?_) (fun c => absurd c (by decide))
    refine wq_aload_n rfl rfl ?_
    refine wq_iload_n rfl rfl ?_
    refine wq_virt (b := c) (a := [.int (nI i)]) (rest := []) rfl rfl rfl rfl rfl ho ?_
    refine r_Bars_endOf ho h1 h2 hn (by omega) ?_
    show WP _ _ _ _ 26 [.ref c, .int (nI i), .int (nI x), .int (nI y), .int (nI 0)] [.int (nI (ben i))] h
    refine wq_iload_n rfl rfl ?_
    refine wq_stat (a := [.int (nI (ben i)), .int (nI y)]) (rest := []) rfl rfl rfl rfl rfl ?_
    refine r_cmpN (by omega) (by omega) (fun c27 => ?_) (fun c27 => ?_) (fun c27 => ?_)
    · skip
      show WP _ _ _ _ 30 [.ref c, .int (nI i), .int (nI x), .int (nI y), .int (nI 0)] [.int ((-1))] h
      refine wq_iret rfl trivial ?_
      exact k1 (Or.inr ⟨c6, c27⟩)
    · skip
      show WP _ _ _ _ 30 [.ref c, .int (nI i), .int (nI x), .int (nI y), .int (nI 0)] [.int (nI 0)] h
      refine wq_iret rfl trivial ?_
      exact k2 c6 c27
    · skip
      show WP _ _ _ _ 30 [.ref c, .int (nI i), .int (nI x), .int (nI y), .int (nI 0)] [.int (nI 1)] h
      refine wq_iret rfl trivial ?_
      exact k3 (Or.inr ⟨c6, c27⟩)
  · skip
    show WP _ _ _ _ 9 [.ref c, .int (nI i), .int (nI x), .int (nI y), .long 0] [.int (nI 1)] h
    refine wq_istore (lv' := [.ref c, .int (nI i), .int (nI x), .int (nI y), .int (nI 1)]) rfl rfl rfl ?_
    refine wq_iload rfl rfl ?_
    refine wq_if_eq rfl (fun c => absurd c (by decide)) (fun _ => ?_)
    refine wq_iload rfl rfl ?_
    refine wq_goto rfl ?_
    refine wq_iret rfl trivial ?_
    exact k3 (Or.inl c6)
def shA (f : Nat → Nat) (p n : Nat) : Nat → Nat := fun j => if p < j ∧ j ≤ n then f (j - 1) else f j
theorem shA_0 (f : Nat → Nat) (n : Nat) : shA f n n = f := by
  funext j
  unfold shA
  rw [if_neg (by omega)]
theorem shA_lo {f : Nat → Nat} {p n j : Nat} (h : j ≤ p) : shA f p n j = f j := by
  unfold shA
  rw [if_neg (by omega)]
theorem shA_s {f : Nat → Nat} {p n v : Nat} (h : p + 1 ≤ n) (hv : v = f p) : uN' (shA f (p + 1) n) (p + 1) v = shA f p n := by
  funext j
  unfold uN' shA
  by_cases e : j = p + 1
  · rw [if_pos e, if_pos (by omega), hv, e]
    rfl
  · rw [if_neg e]
    by_cases e2 : p + 1 < j ∧ j ≤ n
    · rw [if_pos e2, if_pos (by omega)]
    · rw [if_neg e2, if_neg (by omega)]
def inA (f : Nat → Nat) (p n x : Nat) : Nat → Nat := uN' (shA f p n) p x
theorem r_Bars_cmpS {d b : Nat} {pre suf : mH} {bsz : Nat} {bop : Nat} {bbg : Nat → Nat} {ben : Nat → Nat} {Q : Option Value → mH → Prop} (hb : pre.length = b) {p x y : Nat} (hn : bsz < 40) (hp : p < bsz) (hv : bbg p < 2 ^ 31 ∧ ben p < 2 ^ 31) (hx : x < 2 ^ 31) (hy : y < 2 ^ 31) (k1 : ¬ (x < bbg p ∨ (bbg p = x ∧ y < ben p)) → Q (some (.int (-1))) (bW b pre bsz bop (shA bbg (p + 1) bsz) (shA ben (p + 1) bsz) suf)) (k2 : ¬ (x < bbg p ∨ (bbg p = x ∧ y < ben p)) → Q (some (.int (nI 0))) (bW b pre bsz bop (shA bbg (p + 1) bsz) (shA ben (p + 1) bsz) suf)) (k3 : (x < bbg p ∨ (bbg p = x ∧ y < ben p)) → Q (some (.int (nI 1))) (bW b pre bsz bop (shA bbg (p + 1) bsz) (shA ben (p + 1) bsz) suf)) : Rn mprog (d + 2) n_Bars_compare [.ref b, .int (nI p), .int (nI x), .int (nI y)] (bW b pre bsz bop (shA bbg (p + 1) bsz) (shA ben (p + 1) bsz) suf) Q := by
  have e1 : shA bbg (p + 1) bsz p = bbg p := shA_lo (Nat.le_succ p)
  have e2 : shA ben (p + 1) bsz p = ben p := shA_lo (Nat.le_succ p)
  refine r_Bars_compare (bW_o0 hb) (bW_a1 hb) (bW_a2 hb) (by omega) hp (by rw [e1, e2]; exact hv) hx hy (fun q => ?_) (fun q q2 => ?_) (fun q => ?_)
  · rw [e1, e2] at q
    exact k1 (by omega)
  · rw [e1] at q
    rw [e2] at q2
    exact k2 (by omega)
  · rw [e1, e2] at q
    exact k3 q
theorem l_Bars_add {d b : Nat} {pre suf : mH} {bsz : Nat} {bop : Nat} {bbg : Nat → Nat} {ben : Nat → Nat} {Q : Option Value → mH → Prop} (hb : pre.length = b) {x y : Nat} (hn : bsz < 40) (hv : ∀ i, i < 40 → bbg i < 2 ^ 31 ∧ ben i < 2 ^ 31) (hx : x < 2 ^ 31) (hy : y < 2 ^ 31) (hQ : ∀ p, p ≤ bsz → (∀ i, p ≤ i → i < bsz → gtP (bbg i) (ben i) x y = true) → (p = 0 ∨ gtP (bbg (p - 1)) (ben (p - 1)) x y = false) → Q none (bW b pre (bsz + 1) (if y = 99 then bop + 1 else bop) (inA bbg p bsz x) (inA ben p bsz y) suf)) : ∀ p, p ≤ bsz → (∀ i, p ≤ i → i < bsz → gtP (bbg i) (ben i) x y = true) → WP (Rn mprog (d + 2)) k_Bars_add none Q 37 [.ref b, .int (nI x), .int (nI y), .int (nI p)] [] (bW b pre bsz bop (shA bbg p bsz) (shA ben p bsz) suf) := by
  intro p
  induction p with
  | zero =>
    intro hp hg
    refine wq_iload_n rfl rfl ?_
    refine wq_if_le rfl (fun _ => ?_) (fun c => absurd c (by decide))
    refine wq_aload_n rfl rfl ?_
    refine wq_getfield (v := .ref (b + 1)) rfl (bW_o0 hb) rfl ?_
    refine wq_iload_n rfl rfl ?_
    refine wq_iload_n rfl rfl ?_
    refine wn_iastore (g := (shA bbg 0 bsz)) (h' := bW b pre bsz bop (uN' ((shA bbg 0 bsz)) 0 x) (shA ben 0 bsz) suf) rfl (bW_a1 hb) (by omega) (by decide) (bW_t1 hb) ?_
    refine wq_aload_n rfl rfl ?_
    refine wq_getfield (v := .ref (b + 2)) rfl (bW_o0 hb) rfl ?_
    refine wq_iload_n rfl rfl ?_
    refine wq_iload_n rfl rfl ?_
    refine wn_iastore (g := (shA ben 0 bsz)) (h' := bW b pre bsz bop (uN' ((shA bbg 0 bsz)) 0 x) (uN' ((shA ben 0 bsz)) 0 y) suf) rfl (bW_a2 hb) (by omega) (by decide) (bW_t2 hb) ?_
    refine wq_aload_n rfl rfl ?_
    refine wq_dup rfl rfl ?_
    refine wq_getfield (v := .int (nI bsz)) rfl (bW_o0 hb) rfl ?_
    refine wq_iconst (v := nI 1) rfl (by decide) ?_
    refine wn_iadd rfl ?_
    refine wq_putfield (h' := bW b pre (bsz + 1) bop (uN' ((shA bbg 0 bsz)) 0 x) (uN' ((shA ben 0 bsz)) 0 y) suf) rfl (bW_o0 hb) rfl (bW_s0_2 hb) ?_
    refine wq_iload_n rfl rfl ?_
    refine wq_bipush (v := nI 99) rfl (by decide) ?_
    refine wn_ic_ne rfl (by omega) (by omega) (fun c114 => ?_) (fun c114 => ?_)
    · skip
      refine wq_vret rfl rfl ?_
      have q := hQ 0 hp hg (Or.inl rfl)
      rw [if_neg c114] at q
      exact q
    · skip
      refine wq_aload_n rfl rfl ?_
      refine wq_dup rfl rfl ?_
      refine wq_getfield (v := .int (nI bop)) rfl (bW_o0 hb) rfl ?_
      refine wq_iconst (v := nI 1) rfl (by decide) ?_
      refine wn_iadd rfl ?_
      refine wq_putfield (h' := bW b pre (bsz + 1) (bop + 1) (uN' ((shA bbg 0 bsz)) 0 x) (uN' ((shA ben 0 bsz)) 0 y) suf) rfl (bW_o0 hb) rfl (bW_s0_3 hb) ?_
      refine wq_vret rfl rfl ?_
      have q := hQ 0 hp hg (Or.inl rfl)
      rw [if_pos c114] at q
      exact q
  | succ p ih =>
    intro hp hg
    refine wq_iload_n rfl rfl ?_
    refine wn_if_le rfl (by omega) (fun c38 => absurd c38 (by omega)) (fun c38 => ?_)
    refine wq_aload_n rfl rfl ?_
    refine wq_iload_n rfl rfl ?_
    refine wq_iconst (v := nI 1) rfl (by decide) ?_
    refine wq_isub (v := nI p) rfl (nI_pred _) ?_
    refine wq_iload_n rfl rfl ?_
    refine wq_iload_n rfl rfl ?_
    refine wq_virt (b := b) (a := [.int (nI p), .int (nI x), .int (nI y)]) (rest := []) rfl rfl rfl rfl rfl (bW_o0 hb) ?_
    refine r_Bars_cmpS hb hn (by omega) (hv p (by omega)) hx hy (fun c47 => ?_) (fun c47 => ?_) (fun c47 => ?_)
    · skip
      show WP _ _ _ _ 50 [.ref b, .int (nI x), .int (nI y), .int (nI (p + 1))] [.int ((-1))] (bW b pre bsz bop (shA bbg (p + 1) bsz) (shA ben (p + 1) bsz) suf)
      refine wq_if_le rfl (fun c50 => ?_) (fun c50 => absurd c50 (by decide))
      refine wq_aload_n rfl rfl ?_
      refine wq_getfield (v := .ref (b + 1)) rfl (bW_o0 hb) rfl ?_
      refine wq_iload_n rfl rfl ?_
      refine wq_iload_n rfl rfl ?_
      refine wn_iastore (g := (shA bbg (p + 1) bsz)) (h' := bW b pre bsz bop (uN' ((shA bbg (p + 1) bsz)) (p + 1) x) (shA ben (p + 1) bsz) suf) rfl (bW_a1 hb) (by omega) (by decide) (bW_t1 hb) ?_
      refine wq_aload_n rfl rfl ?_
      refine wq_getfield (v := .ref (b + 2)) rfl (bW_o0 hb) rfl ?_
      refine wq_iload_n rfl rfl ?_
      refine wq_iload_n rfl rfl ?_
      refine wn_iastore (g := (shA ben (p + 1) bsz)) (h' := bW b pre bsz bop (uN' ((shA bbg (p + 1) bsz)) (p + 1) x) (uN' ((shA ben (p + 1) bsz)) (p + 1) y) suf) rfl (bW_a2 hb) (by omega) (by decide) (bW_t2 hb) ?_
      refine wq_aload_n rfl rfl ?_
      refine wq_dup rfl rfl ?_
      refine wq_getfield (v := .int (nI bsz)) rfl (bW_o0 hb) rfl ?_
      refine wq_iconst (v := nI 1) rfl (by decide) ?_
      refine wn_iadd rfl ?_
      refine wq_putfield (h' := bW b pre (bsz + 1) bop (uN' ((shA bbg (p + 1) bsz)) (p + 1) x) (uN' ((shA ben (p + 1) bsz)) (p + 1) y) suf) rfl (bW_o0 hb) rfl (bW_s0_2 hb) ?_
      refine wq_iload_n rfl rfl ?_
      refine wq_bipush (v := nI 99) rfl (by decide) ?_
      refine wn_ic_ne rfl (by omega) (by omega) (fun c114 => ?_) (fun c114 => ?_)
      · skip
        refine wq_vret rfl rfl ?_
        have hgt : gtP (bbg p) (ben p) x y = false := gtP_f c47
        have q := hQ (p + 1) hp hg (Or.inr (by rw [Nat.add_sub_cancel]; exact hgt))
        rw [if_neg c114] at q
        exact q
      · skip
        refine wq_aload_n rfl rfl ?_
        refine wq_dup rfl rfl ?_
        refine wq_getfield (v := .int (nI bop)) rfl (bW_o0 hb) rfl ?_
        refine wq_iconst (v := nI 1) rfl (by decide) ?_
        refine wn_iadd rfl ?_
        refine wq_putfield (h' := bW b pre (bsz + 1) (bop + 1) (uN' ((shA bbg (p + 1) bsz)) (p + 1) x) (uN' ((shA ben (p + 1) bsz)) (p + 1) y) suf) rfl (bW_o0 hb) rfl (bW_s0_3 hb) ?_
        refine wq_vret rfl rfl ?_
        have hgt : gtP (bbg p) (ben p) x y = false := gtP_f c47
        have q := hQ (p + 1) hp hg (Or.inr (by rw [Nat.add_sub_cancel]; exact hgt))
        rw [if_pos c114] at q
        exact q
    · skip
      show WP _ _ _ _ 50 [.ref b, .int (nI x), .int (nI y), .int (nI (p + 1))] [.int (nI 0)] (bW b pre bsz bop (shA bbg (p + 1) bsz) (shA ben (p + 1) bsz) suf)
      refine wq_if_le rfl (fun _ => ?_) (fun c => absurd c (by decide))
      refine wq_aload_n rfl rfl ?_
      refine wq_getfield (v := .ref (b + 1)) rfl (bW_o0 hb) rfl ?_
      refine wq_iload_n rfl rfl ?_
      refine wq_iload_n rfl rfl ?_
      refine wn_iastore (g := (shA bbg (p + 1) bsz)) (h' := bW b pre bsz bop (uN' ((shA bbg (p + 1) bsz)) (p + 1) x) (shA ben (p + 1) bsz) suf) rfl (bW_a1 hb) (by omega) (by decide) (bW_t1 hb) ?_
      refine wq_aload_n rfl rfl ?_
      refine wq_getfield (v := .ref (b + 2)) rfl (bW_o0 hb) rfl ?_
      refine wq_iload_n rfl rfl ?_
      refine wq_iload_n rfl rfl ?_
      refine wn_iastore (g := (shA ben (p + 1) bsz)) (h' := bW b pre bsz bop (uN' ((shA bbg (p + 1) bsz)) (p + 1) x) (uN' ((shA ben (p + 1) bsz)) (p + 1) y) suf) rfl (bW_a2 hb) (by omega) (by decide) (bW_t2 hb) ?_
      refine wq_aload_n rfl rfl ?_
      refine wq_dup rfl rfl ?_
      refine wq_getfield (v := .int (nI bsz)) rfl (bW_o0 hb) rfl ?_
      refine wq_iconst (v := nI 1) rfl (by decide) ?_
      refine wn_iadd rfl ?_
      refine wq_putfield (h' := bW b pre (bsz + 1) bop (uN' ((shA bbg (p + 1) bsz)) (p + 1) x) (uN' ((shA ben (p + 1) bsz)) (p + 1) y) suf) rfl (bW_o0 hb) rfl (bW_s0_2 hb) ?_
      refine wq_iload_n rfl rfl ?_
      refine wq_bipush (v := nI 99) rfl (by decide) ?_
      refine wn_ic_ne rfl (by omega) (by omega) (fun c114 => ?_) (fun c114 => ?_)
      · skip
        refine wq_vret rfl rfl ?_
        have hgt : gtP (bbg p) (ben p) x y = false := gtP_f c47
        have q := hQ (p + 1) hp hg (Or.inr (by rw [Nat.add_sub_cancel]; exact hgt))
        rw [if_neg c114] at q
        exact q
      · skip
        refine wq_aload_n rfl rfl ?_
        refine wq_dup rfl rfl ?_
        refine wq_getfield (v := .int (nI bop)) rfl (bW_o0 hb) rfl ?_
        refine wq_iconst (v := nI 1) rfl (by decide) ?_
        refine wn_iadd rfl ?_
        refine wq_putfield (h' := bW b pre (bsz + 1) (bop + 1) (uN' ((shA bbg (p + 1) bsz)) (p + 1) x) (uN' ((shA ben (p + 1) bsz)) (p + 1) y) suf) rfl (bW_o0 hb) rfl (bW_s0_3 hb) ?_
        refine wq_vret rfl rfl ?_
        have hgt : gtP (bbg p) (ben p) x y = false := gtP_f c47
        have q := hQ (p + 1) hp hg (Or.inr (by rw [Nat.add_sub_cancel]; exact hgt))
        rw [if_pos c114] at q
        exact q
    · skip
      show WP _ _ _ _ 50 [.ref b, .int (nI x), .int (nI y), .int (nI (p + 1))] [.int (nI 1)] (bW b pre bsz bop (shA bbg (p + 1) bsz) (shA ben (p + 1) bsz) suf)
      refine wq_if_le rfl (fun c => absurd c (by decide)) (fun _ => ?_)
      refine wq_aload_n rfl rfl ?_
      refine wq_getfield (v := .ref (b + 1)) rfl (bW_o0 hb) rfl ?_
      refine wq_iload_n rfl rfl ?_
      refine wq_aload_n rfl rfl ?_
      refine wq_getfield (v := .ref (b + 1)) rfl (bW_o0 hb) rfl ?_
      refine wq_iload_n rfl rfl ?_
      refine wq_iconst (v := nI 1) rfl (by decide) ?_
      refine wq_isub (v := nI p) rfl (nI_pred _) ?_
      refine wn_iaload (g := (shA bbg (p + 1) bsz)) rfl (bW_a1 hb) (by omega) (by decide) ?_
      refine wn_iastore (g := (shA bbg (p + 1) bsz)) (h' := bW b pre bsz bop (uN' ((shA bbg (p + 1) bsz)) (p + 1) (((shA bbg (p + 1) bsz)) p)) (shA ben (p + 1) bsz) suf) rfl (bW_a1 hb) (by omega) (by decide) (bW_t1 hb) ?_
      refine wq_aload_n rfl rfl ?_
      refine wq_getfield (v := .ref (b + 2)) rfl (bW_o0 hb) rfl ?_
      refine wq_iload_n rfl rfl ?_
      refine wq_aload_n rfl rfl ?_
      refine wq_getfield (v := .ref (b + 2)) rfl (bW_o0 hb) rfl ?_
      refine wq_iload_n rfl rfl ?_
      refine wq_iconst (v := nI 1) rfl (by decide) ?_
      refine wq_isub (v := nI p) rfl (nI_pred _) ?_
      refine wn_iaload (g := (shA ben (p + 1) bsz)) rfl (bW_a2 hb) (by omega) (by decide) ?_
      refine wn_iastore (g := (shA ben (p + 1) bsz)) (h' := bW b pre bsz bop (uN' ((shA bbg (p + 1) bsz)) (p + 1) (((shA bbg (p + 1) bsz)) p)) (uN' ((shA ben (p + 1) bsz)) (p + 1) (((shA ben (p + 1) bsz)) p)) suf) rfl (bW_a2 hb) (by omega) (by decide) (bW_t2 hb) ?_
      refine wn_dec (lv' := [.ref b, .int (nI x), .int (nI y), .int (nI p)]) rfl rfl rfl ?_
      refine wq_goto rfl ?_
      have hgt : gtP (bbg p) (ben p) x y = true := gtP_iff.mpr c47
      rw [shA_s hp (shA_lo (Nat.le_succ p)), shA_s hp (shA_lo (Nat.le_succ p))]
      exact ih (by omega) (fun i h1 h2 => by
        by_cases e : i = p
        · rw [e]; exact hgt
        · exact hg i (by omega) h2)
theorem r_Bars_add {d b : Nat} {pre suf : mH} {bsz : Nat} {bop : Nat} {bbg : Nat → Nat} {ben : Nat → Nat} {Q : Option Value → mH → Prop} (hb : pre.length = b) {x y : Nat} (hn : bsz < 40) (hv : ∀ i, i < 40 → bbg i < 2 ^ 31 ∧ ben i < 2 ^ 31) (hx : x < 2 ^ 31) (hy : y < 2 ^ 31) (hQ : ∀ p, p ≤ bsz → (∀ i, p ≤ i → i < bsz → gtP (bbg i) (ben i) x y = true) → (p = 0 ∨ gtP (bbg (p - 1)) (ben (p - 1)) x y = false) → Q none (bW b pre (bsz + 1) (if y = 99 then bop + 1 else bop) (inA bbg p bsz x) (inA ben p bsz y) suf)) : Rn mprog (d + 3) n_Bars_add [.ref b, .int (nI x), .int (nI y)] (bW b pre bsz bop bbg ben suf) Q := by
  refine Rn.in rfl rfl rfl ?_
  show WP _ _ _ _ 0 [.ref b, .int (nI x), .int (nI y), .long 0] [] (bW b pre bsz bop bbg ben suf)
  refine wq_aload_n rfl rfl ?_
  refine wq_getfield (v := .int (nI bsz)) rfl (bW_o0 hb) rfl ?_
  refine wn_if_lt rfl (by omega) ?_
  refine wq_aload_n rfl rfl ?_
  refine wq_getfield (v := .int (nI bsz)) rfl (bW_o0 hb) rfl ?_
  refine wq_aload_n rfl rfl ?_
  refine wq_getfield (v := .ref (b + 1)) rfl (bW_o0 hb) rfl ?_
  refine wq_alen (v := nI 40) rfl (bW_a1 hb) rfl rfl ?_
  refine wn_ic_ge rfl (by omega) (by omega) (fun c16 => absurd c16 (by omega)) (fun c16 => ?_)
  refine wq_aload_n rfl rfl ?_
  refine wq_getfield (v := .int (nI bsz)) rfl (bW_o0 hb) rfl ?_
  refine wq_aload_n rfl rfl ?_
  refine wq_getfield (v := .ref (b + 2)) rfl (bW_o0 hb) rfl ?_
  refine wq_alen (v := nI 40) rfl (bW_a2 hb) rfl rfl ?_
  refine wn_ic_lt rfl (by omega) (by omega) (fun c28 => ?_) (fun c28 => absurd c28 (by omega))
  refine wq_aload_n rfl rfl ?_
  refine wq_getfield (v := .int (nI bsz)) rfl (bW_o0 hb) rfl ?_
  refine wq_istore_n (lv' := [.ref b, .int (nI x), .int (nI y), .int (nI bsz)]) rfl rfl rfl ?_
  have q := l_Bars_add (d := d) hb hn hv hx hy hQ bsz (Nat.le_refl _) (fun i h1 h2 => absurd h2 (by omega))
  rw [shA_0, shA_0] at q
  exact q
