/-! the reference: what its calls share -/
def Fn (tn lt un kp ap wb : Nat) : Nat → Nat := fun j => if j = 0 then tn else if j = 2 then lt else if j = 5 then un else if j = 7 then kp else if j = 18 then ap else if j = 21 then wb else 0
def Gn (tx sq pa ke to wg we : Nat → Nat) : Nat → Nat → Nat := fun j => if j = 1 then tx else if j = 3 then sq else if j = 4 then pa else if j = 6 then ke else if j = 17 then to else if j = 19 then wg else if j = 20 then we else fun _ => 0
def mR (b : Nat) (pre : mH) (tn : Nat) (lt : Nat) (un : Nat) (kp : Nat) (ap : Nat) (wb : Nat) (tx : Nat → Nat) (sq : Nat → Nat) (pa : Nat → Nat) (ke : Nat → Nat) (to : Nat → Nat) (wg : Nat → Nat) (we : Nat → Nat) (th : Nat) (pcs : Nat) (brs : Nat) (be : Nat → Nat) (po : Nat → Nat) (ro : Nat → Nat) (kf : Nat → Nat → Nat) (bg : Nat → Nat) (en : Nat → Nat) : mH := mS b pre (Fn tn lt un kp ap wb) (Gn tx sq pa ke to wg we) th pcs brs be po ro kf bg en
theorem popc_s (x n : Nat) : popc x (n + 1) = popc x n + (x >>> n &&& 1) := by
  rw [bit_and1]
  rfl
theorem l_M_bits {d : Nat} {h : mH} {Q : Option Value → mH → Prop} {x : Nat} (hx : x < 512) (hQ : Q (some (.int (nI (popc x 9)))) h) : ∀ (m i : Nat), i + m = 9 → WP (Rn mprog (d + 0)) k_M_bits (some .int) Q 4 [.int (nI x), .int (nI (popc x i)), .int (nI i)] [] (h) := by
  intro m
  induction m with
  | zero =>
    intro i hi
    have e : i = 9 := by omega
    subst e
    refine wq_iload_n rfl rfl ?_
    refine wq_bipush (v := nI 9) rfl (by decide) ?_
    refine wq_ic_ge rfl (fun _ => ?_) (fun c => absurd c (by decide))
    refine wq_iload_n rfl rfl ?_
    refine wq_iret rfl trivial ?_
    exact hQ
  | succ m ih =>
    intro i hi
    refine wq_iload_n rfl rfl ?_
    refine wq_bipush (v := nI 9) rfl (by decide) ?_
    refine wn_ic_ge rfl (by omega) (by omega) (fun c7 => absurd c7 (by omega)) (fun c7 => ?_)
    refine wq_iload_n rfl rfl ?_
    refine wq_iload_n rfl rfl ?_
    refine wq_iload_n rfl rfl ?_
    refine wn_ishr rfl (by omega) (by omega) ?_
    refine wq_iconst (v := nI 1) rfl (by decide) ?_
    refine wn_iand rfl ?_
    refine wn_iadd rfl ?_
    refine wq_istore_n (lv' := [.int (nI x), .int (nI ((popc x i) + ((x >>> i) &&& 1))), .int (nI i)]) rfl rfl rfl ?_
    refine wn_inc (lv' := [.int (nI x), .int (nI ((popc x i) + ((x >>> i) &&& 1))), .int (nI (i + 1))]) rfl rfl rfl ?_
    refine wq_goto rfl ?_
    rw [← popc_s]
    exact ih (i + 1) (by omega)
theorem r_M_bits {d : Nat} {h : mH} {Q : Option Value → mH → Prop} {x : Nat} (hx : x < 512) (hQ : Q (some (.int (nI (popc x 9)))) h) : Rn mprog (d + 1) n_M_bits [.int (nI x)] h Q := by
  refine Rn.in rfl rfl rfl ?_
  show WP _ _ _ _ 0 [.int (nI x), .long 0, .long 0] [] h
  refine wq_iconst (v := nI 0) rfl (by decide) ?_
  refine wq_istore_n (lv' := [.int (nI x), .int (nI 0), .long 0]) rfl rfl rfl ?_
  refine wq_iconst (v := nI 0) rfl (by decide) ?_
  refine wq_istore_n (lv' := [.int (nI x), .int (nI 0), .int (nI 0)]) rfl rfl rfl ?_
  exact l_M_bits hx hQ 9 0 rfl
theorem esum_le (be : Nat → Nat) : ∀ n, esum be n ≤ 9 * n
  | 0 => Nat.le_refl 0
  | n + 1 => by
    unfold esum
    have := esum_le be n
    have := popc_le (be n) 9
    omega
theorem l_M_edges {d b : Nat} {pre : mH} {tn : Nat} {lt : Nat} {un : Nat} {kp : Nat} {ap : Nat} {wb : Nat} {tx : Nat → Nat} {sq : Nat → Nat} {pa : Nat → Nat} {ke : Nat → Nat} {to : Nat → Nat} {wg : Nat → Nat} {we : Nat → Nat} {th : Nat} {pcs : Nat} {brs : Nat} {be : Nat → Nat} {po : Nat → Nat} {ro : Nat → Nat} {kf : Nat → Nat → Nat} {bg : Nat → Nat} {en : Nat → Nat} {Q : Option Value → mH → Prop} (hb : pre.length = b) (hbe : ∀ p, p < 9 → be p < 512) (hQ : Q (some (.int (nI (esum be 9 / 2)))) (mR b pre tn lt un kp ap wb tx sq pa ke to wg we th pcs brs be po ro kf bg en)) : ∀ (m i : Nat), i + m = 9 → WP (Rn mprog (d + 1)) k_M_edges (some .int) Q 4 [.ref b, .int (nI (esum be i)), .int (nI i)] [] (mR b pre tn lt un kp ap wb tx sq pa ke to wg we th pcs brs be po ro kf bg en) := by
  intro m
  induction m with
  | zero =>
    intro i hi
    have e : i = 9 := by omega
    subst e
    have hle := esum_le be 9
    refine wq_iload_n rfl rfl ?_
    refine wq_bipush (v := nI 9) rfl (by decide) ?_
    refine wq_ic_ge rfl (fun _ => ?_) (fun c => absurd c (by decide))
    refine wq_iload_n rfl rfl ?_
    refine wq_iconst (v := nI 2) rfl (by decide) ?_
    refine wn_idiv rfl (by decide) (by omega) (by decide) ?_
    refine wq_iret rfl trivial ?_
    exact hQ
  | succ m ih =>
    intro i hi
    refine wq_iload_n rfl rfl ?_
    refine wq_bipush (v := nI 9) rfl (by decide) ?_
    refine wn_ic_ge rfl (by omega) (by omega) (fun c7 => absurd c7 (by omega)) (fun c7 => ?_)
    refine wq_iload_n rfl rfl ?_
    refine wq_aload_n rfl rfl ?_
    refine wq_getfield (v := .ref (b + 5)) rfl (mS_o hb) rfl ?_
    refine wq_iload_n rfl rfl ?_
    refine wn_iaload (g := be) rfl (mS_a9 hb) (by omega) (by decide) ?_
    refine wq_stat (a := [.int (nI (be i))]) (rest := [.int (nI (esum be i))]) rfl rfl rfl rfl rfl ?_
    refine r_M_bits (hbe i (by omega)) ?_
    show WP _ _ _ _ 20 [.ref b, .int (nI (esum be i)), .int (nI i)] [.int (nI (popc (be i) 9)), .int (nI (esum be i))] (mR b pre tn lt un kp ap wb tx sq pa ke to wg we th pcs brs be po ro kf bg en)
    refine wn_iadd rfl ?_
    refine wq_istore_n (lv' := [.ref b, .int (nI ((esum be i) + (popc (be i) 9))), .int (nI i)]) rfl rfl rfl ?_
    refine wn_inc (lv' := [.ref b, .int (nI ((esum be i) + (popc (be i) 9))), .int (nI (i + 1))]) rfl rfl rfl ?_
    refine wq_goto rfl ?_
    exact ih (i + 1) (by omega)
theorem r_M_edges {d b : Nat} {pre : mH} {tn : Nat} {lt : Nat} {un : Nat} {kp : Nat} {ap : Nat} {wb : Nat} {tx : Nat → Nat} {sq : Nat → Nat} {pa : Nat → Nat} {ke : Nat → Nat} {to : Nat → Nat} {wg : Nat → Nat} {we : Nat → Nat} {th : Nat} {pcs : Nat} {brs : Nat} {be : Nat → Nat} {po : Nat → Nat} {ro : Nat → Nat} {kf : Nat → Nat → Nat} {bg : Nat → Nat} {en : Nat → Nat} {Q : Option Value → mH → Prop} (hb : pre.length = b) (hbe : ∀ p, p < 9 → be p < 512) (hQ : Q (some (.int (nI (esum be 9 / 2)))) (mR b pre tn lt un kp ap wb tx sq pa ke to wg we th pcs brs be po ro kf bg en)) : Rn mprog (d + 2) n_M_edges [.ref b] (mR b pre tn lt un kp ap wb tx sq pa ke to wg we th pcs brs be po ro kf bg en) Q := by
  refine Rn.in rfl rfl rfl ?_
  show WP _ _ _ _ 0 [.ref b, .long 0, .long 0] [] (mR b pre tn lt un kp ap wb tx sq pa ke to wg we th pcs brs be po ro kf bg en)
  refine wq_iconst (v := nI 0) rfl (by decide) ?_
  refine wq_istore_n (lv' := [.ref b, .int (nI 0), .long 0]) rfl rfl rfl ?_
  refine wq_iconst (v := nI 0) rfl (by decide) ?_
  refine wq_istore_n (lv' := [.ref b, .int (nI 0), .int (nI 0)]) rfl rfl rfl ?_
  exact l_M_edges hb hbe hQ 9 0 rfl
theorem r_M_lengthOf {d b : Nat} {pre : mH} {tn : Nat} {lt : Nat} {un : Nat} {kp : Nat} {ap : Nat} {wb : Nat} {tx : Nat → Nat} {sq : Nat → Nat} {pa : Nat → Nat} {ke : Nat → Nat} {to : Nat → Nat} {wg : Nat → Nat} {we : Nat → Nat} {th : Nat} {pcs : Nat} {brs : Nat} {be : Nat → Nat} {po : Nat → Nat} {ro : Nat → Nat} {kf : Nat → Nat → Nat} {bg : Nat → Nat} {en : Nat → Nat} {Q : Option Value → mH → Prop} (hb : pre.length = b) (hb60 : brs ≤ 40) (hs0 : sq 0 ≤ 40) (hv : BQ (sq 0) bg en brs) {i : Nat} (hi : i < brs) (hQ : Q (some (.int (nI (lnN (sq 0) (bg i) (en i))))) (mR b pre tn lt un kp ap wb tx sq pa ke to wg we th pcs brs be po ro kf bg en)) : Rn mprog (d + 1) n_M_lengthOf [.ref b, .int (nI i)] (mR b pre tn lt un kp ap wb tx sq pa ke to wg we th pcs brs be po ro kf bg en) Q := by
  obtain ⟨⟨v1, v2, v3, v4⟩, v5⟩ := hv i (by omega)
  dsimp only at v1 v2 v3 v4
  refine Rn.in rfl rfl rfl ?_
  show WP _ _ _ _ 0 [.ref b, .int (nI i)] [] (mR b pre tn lt un kp ap wb tx sq pa ke to wg we th pcs brs be po ro kf bg en)
  refine wq_aload_n rfl rfl ?_
  refine wq_getfield (v := .ref (b + 10)) rfl (mS_o hb) rfl ?_
  refine wq_iload_n rfl rfl ?_
  refine wn_iaload (g := en) rfl (mS_a15 hb) (by omega) (by decide) ?_
  refine wq_bipush (v := nI 99) rfl (by decide) ?_
  refine wn_ic_ne rfl (by omega) (by omega) (fun c8 => ?_) (fun c8 => ?_)
  · skip
    refine wq_aload_n rfl rfl ?_
    refine wq_getfield (v := .ref (b + 10)) rfl (mS_o hb) rfl ?_
    refine wq_iload_n rfl rfl ?_
    refine wn_iaload (g := en) rfl (mS_a15 hb) (by omega) (by decide) ?_
    refine wq_aload_n rfl rfl ?_
    refine wq_getfield (v := .ref (b + 9)) rfl (mS_o hb) rfl ?_
    refine wq_iload_n rfl rfl ?_
    refine wn_iaload (g := bg) rfl (mS_a14 hb) (by omega) (by decide) ?_
    refine wn_isub rfl (by unfold laE at v5; split at v5 <;> omega) ?_
    refine wq_iret rfl trivial ?_
    have e : lnN (sq 0) (bg i) (en i) = en i - bg i := by unfold lnN laE; rw [if_neg c8]; omega
    rw [e] at hQ
    exact hQ
  · skip
    refine wq_aload_n rfl rfl ?_
    refine wq_getfield (v := .ref (b + 2)) rfl (mS_o hb) rfl ?_
    refine wq_iconst (v := nI 0) rfl (by decide) ?_
    refine wn_iaload (g := sq) rfl (mS_a3 hb) (by omega) (by decide) ?_
    refine wq_iconst (v := nI 1) rfl (by decide) ?_
    refine wn_iadd rfl ?_
    refine wq_goto rfl ?_
    refine wq_aload_n rfl rfl ?_
    refine wq_getfield (v := .ref (b + 9)) rfl (mS_o hb) rfl ?_
    refine wq_iload_n rfl rfl ?_
    refine wn_iaload (g := bg) rfl (mS_a14 hb) (by omega) (by decide) ?_
    refine wn_isub rfl (by unfold laE at v5; split at v5 <;> omega) ?_
    refine wq_iret rfl trivial ?_
    have e : lnN (sq 0) (bg i) (en i) = sq 0 + 1 - bg i := by unfold lnN laE; rw [if_pos c8]
    rw [e] at hQ
    exact hQ
theorem l_M_open {d b : Nat} {pre : mH} {tn : Nat} {lt : Nat} {un : Nat} {kp : Nat} {ap : Nat} {wb : Nat} {tx : Nat → Nat} {sq : Nat → Nat} {pa : Nat → Nat} {ke : Nat → Nat} {to : Nat → Nat} {wg : Nat → Nat} {we : Nat → Nat} {th : Nat} {pcs : Nat} {brs : Nat} {be : Nat → Nat} {po : Nat → Nat} {ro : Nat → Nat} {kf : Nat → Nat → Nat} {bg : Nat → Nat} {en : Nat → Nat} {Q : Option Value → mH → Prop} (hb : pre.length = b) (hb60 : brs ≤ 40) (hv : ∀ i, i < brs → BV (bg i, en i)) (hQ : Q (some (.int (nI (cntA (fun j => Nat.beq (en j) 99) brs)))) (mR b pre tn lt un kp ap wb tx sq pa ke to wg we th pcs brs be po ro kf bg en)) : ∀ (m i : Nat), i + m = brs → WP (Rn mprog (d + 0)) k_M_open (some .int) Q 4 [.ref b, .int (nI (cntA (fun j => Nat.beq (en j) 99) i)), .int (nI i)] [] (mR b pre tn lt un kp ap wb tx sq pa ke to wg we th pcs brs be po ro kf bg en) := by
  intro m
  induction m with
  | zero =>
    intro i hi
    have e : i = brs := by omega
    subst e
    refine wq_iload_n rfl rfl ?_
    refine wq_aload_n rfl rfl ?_
    refine wq_getfield (v := .int (nI i)) rfl (mS_o hb) rfl ?_
    refine wn_ic_ge rfl (by omega) (by omega) (fun c9 => ?_) (fun c9 => absurd c9 (by omega))
    refine wq_iload_n rfl rfl ?_
    refine wq_iret rfl trivial ?_
    exact hQ
  | succ m ih =>
    intro i hi
    obtain ⟨v1, v2, v3, v4⟩ := hv i (by omega)
    dsimp only at v1 v2 v3 v4
    refine wq_iload_n rfl rfl ?_
    refine wq_aload_n rfl rfl ?_
    refine wq_getfield (v := .int (nI brs)) rfl (mS_o hb) rfl ?_
    refine wn_ic_ge rfl (by omega) (by omega) (fun c9 => absurd c9 (by omega)) (fun c9 => ?_)
    refine wq_iload_n rfl rfl ?_
    refine wq_aload_n rfl rfl ?_
    refine wq_getfield (v := .ref (b + 10)) rfl (mS_o hb) rfl ?_
    refine wq_iload_n rfl rfl ?_
    refine wn_iaload (g := en) rfl (mS_a15 hb) (by omega) (by decide) ?_
    refine wq_bipush (v := nI 99) rfl (by decide) ?_
    refine wn_ic_ne rfl (by omega) (by omega) (fun c21 => ?_) (fun c21 => ?_)
    · skip
      refine wq_iconst (v := nI 0) rfl (by decide) ?_
      refine wn_iadd rfl ?_
      refine wq_istore_n (lv' := [.ref b, .int (nI ((cntA (fun j => Nat.beq (en j) 99) i) + 0)), .int (nI i)]) rfl rfl rfl ?_
      refine wn_inc (lv' := [.ref b, .int (nI ((cntA (fun j => Nat.beq (en j) 99) i) + 0)), .int (nI (i + 1))]) rfl rfl rfl ?_
      refine wq_goto rfl ?_
      have q := ih (i + 1) (by omega)
      unfold cntA at q
      rw [if_neg (by show ¬ Nat.beq (en i) 99 = true; rw [Nat.beq_eq]; omega)] at q
      exact q
    · skip
      refine wq_iconst (v := nI 1) rfl (by decide) ?_
      refine wq_goto rfl ?_
      refine wn_iadd rfl ?_
      refine wq_istore_n (lv' := [.ref b, .int (nI ((cntA (fun j => Nat.beq (en j) 99) i) + 1)), .int (nI i)]) rfl rfl rfl ?_
      refine wn_inc (lv' := [.ref b, .int (nI ((cntA (fun j => Nat.beq (en j) 99) i) + 1)), .int (nI (i + 1))]) rfl rfl rfl ?_
      refine wq_goto rfl ?_
      have q := ih (i + 1) (by omega)
      unfold cntA at q
      rw [if_pos (by show Nat.beq (en i) 99 = true; rw [Nat.beq_eq]; omega)] at q
      exact q
theorem r_M_open {d b : Nat} {pre : mH} {tn : Nat} {lt : Nat} {un : Nat} {kp : Nat} {ap : Nat} {wb : Nat} {tx : Nat → Nat} {sq : Nat → Nat} {pa : Nat → Nat} {ke : Nat → Nat} {to : Nat → Nat} {wg : Nat → Nat} {we : Nat → Nat} {th : Nat} {pcs : Nat} {brs : Nat} {be : Nat → Nat} {po : Nat → Nat} {ro : Nat → Nat} {kf : Nat → Nat → Nat} {bg : Nat → Nat} {en : Nat → Nat} {Q : Option Value → mH → Prop} (hb : pre.length = b) (hb60 : brs ≤ 40) (hv : ∀ i, i < brs → BV (bg i, en i)) (hQ : Q (some (.int (nI (cntA (fun j => Nat.beq (en j) 99) brs)))) (mR b pre tn lt un kp ap wb tx sq pa ke to wg we th pcs brs be po ro kf bg en)) : Rn mprog (d + 1) n_M_open [.ref b] (mR b pre tn lt un kp ap wb tx sq pa ke to wg we th pcs brs be po ro kf bg en) Q := by
  refine Rn.in rfl rfl rfl ?_
  show WP _ _ _ _ 0 [.ref b, .long 0, .long 0] [] (mR b pre tn lt un kp ap wb tx sq pa ke to wg we th pcs brs be po ro kf bg en)
  refine wq_iconst (v := nI 0) rfl (by decide) ?_
  refine wq_istore_n (lv' := [.ref b, .int (nI 0), .long 0]) rfl rfl rfl ?_
  refine wq_iconst (v := nI 0) rfl (by decide) ?_
  refine wq_istore_n (lv' := [.ref b, .int (nI 0), .int (nI 0)]) rfl rfl rfl ?_
  exact l_M_open hb hb60 hv hQ brs 0 (by omega)
theorem l_M_longest {d b : Nat} {pre : mH} {tn : Nat} {lt : Nat} {un : Nat} {kp : Nat} {ap : Nat} {wb : Nat} {tx : Nat → Nat} {sq : Nat → Nat} {pa : Nat → Nat} {ke : Nat → Nat} {to : Nat → Nat} {wg : Nat → Nat} {we : Nat → Nat} {th : Nat} {pcs : Nat} {brs : Nat} {be : Nat → Nat} {po : Nat → Nat} {ro : Nat → Nat} {kf : Nat → Nat → Nat} {bg : Nat → Nat} {en : Nat → Nat} {Q : Option Value → mH → Prop} (hb : pre.length = b) (hb60 : brs ≤ 40) (hs0 : sq 0 ≤ 40) (hv : BQ (sq 0) bg en brs) (hQ : Q (some (.int (nI (mxN (fun j => lnN (sq 0) (bg j) (en j)) brs)))) (mR b pre tn lt un kp ap wb tx sq pa ke to wg we th pcs brs be po ro kf bg en)) : ∀ (m i : Nat), i + m = brs → WP (Rn mprog (d + 1)) k_M_longest (some .int) Q 4 [.ref b, .int (nI (mxN (fun j => lnN (sq 0) (bg j) (en j)) i)), .int (nI i)] [] (mR b pre tn lt un kp ap wb tx sq pa ke to wg we th pcs brs be po ro kf bg en) := by
  intro m
  induction m with
  | zero =>
    intro i hi
    have e : i = brs := by omega
    subst e
    refine wq_iload_n rfl rfl ?_
    refine wq_aload_n rfl rfl ?_
    refine wq_getfield (v := .int (nI i)) rfl (mS_o hb) rfl ?_
    refine wn_ic_ge rfl (by omega) (by omega) (fun c9 => ?_) (fun c9 => absurd c9 (by omega))
    refine wq_iload_n rfl rfl ?_
    refine wq_iret rfl trivial ?_
    exact hQ
  | succ m ih =>
    intro i hi
    obtain ⟨⟨v1, v2, v3, v4⟩, v5⟩ := hv i (by omega)
    dsimp only at v1 v2 v3 v4
    have q1 := lnN_le (x := bg i) hs0 v4
    have q2 := mxN_le (f := (fun j => lnN (sq 0) (bg j) (en j))) (m := 100) i (fun j hj => lnN_le hs0 (hv j (by omega)).1.2.2.2)
    refine wq_iload_n rfl rfl ?_
    refine wq_aload_n rfl rfl ?_
    refine wq_getfield (v := .int (nI brs)) rfl (mS_o hb) rfl ?_
    refine wn_ic_ge rfl (by omega) (by omega) (fun c9 => absurd c9 (by omega)) (fun c9 => ?_)
    refine wq_aload_n rfl rfl ?_
    refine wq_iload_n rfl rfl ?_
    refine wq_virt (b := b) (a := [.int (nI i)]) (rest := []) rfl rfl rfl rfl rfl (mS_o hb) ?_
    refine r_M_lengthOf hb hb60 hs0 hv (by omega) ?_
    show WP _ _ _ _ 17 [.ref b, .int (nI (mxN (fun j => lnN (sq 0) (bg j) (en j)) i)), .int (nI i)] [.int (nI (lnN (sq 0) (bg i) (en i)))] (mR b pre tn lt un kp ap wb tx sq pa ke to wg we th pcs brs be po ro kf bg en)
    refine wq_iload_n rfl rfl ?_
    refine wn_ic_le rfl (by omega) (by omega) (fun c18 => ?_) (fun c18 => ?_)
    · skip
      refine wq_iload_n rfl rfl ?_
      refine wq_istore_n (lv' := [.ref b, .int (nI (mxN (fun j => lnN (sq 0) (bg j) (en j)) i)), .int (nI i)]) rfl rfl rfl ?_
      refine wn_inc (lv' := [.ref b, .int (nI (mxN (fun j => lnN (sq 0) (bg j) (en j)) i)), .int (nI (i + 1))]) rfl rfl rfl ?_
      refine wq_goto rfl ?_
      have q := ih (i + 1) (by omega)
      unfold mxN at q
      rw [Nat.max_eq_left (by omega)] at q
      exact q
    · skip
      refine wq_aload_n rfl rfl ?_
      refine wq_iload_n rfl rfl ?_
      refine wq_virt (b := b) (a := [.int (nI i)]) (rest := []) rfl rfl rfl rfl rfl (mS_o hb) ?_
      refine r_M_lengthOf hb hb60 hs0 hv (by omega) ?_
      show WP _ _ _ _ 26 [.ref b, .int (nI (mxN (fun j => lnN (sq 0) (bg j) (en j)) i)), .int (nI i)] [.int (nI (lnN (sq 0) (bg i) (en i)))] (mR b pre tn lt un kp ap wb tx sq pa ke to wg we th pcs brs be po ro kf bg en)
      refine wq_goto rfl ?_
      refine wq_istore_n (lv' := [.ref b, .int (nI (lnN (sq 0) (bg i) (en i))), .int (nI i)]) rfl rfl rfl ?_
      refine wn_inc (lv' := [.ref b, .int (nI (lnN (sq 0) (bg i) (en i))), .int (nI (i + 1))]) rfl rfl rfl ?_
      refine wq_goto rfl ?_
      have q := ih (i + 1) (by omega)
      unfold mxN at q
      rw [Nat.max_eq_right (by omega)] at q
      exact q
theorem r_M_longest {d b : Nat} {pre : mH} {tn : Nat} {lt : Nat} {un : Nat} {kp : Nat} {ap : Nat} {wb : Nat} {tx : Nat → Nat} {sq : Nat → Nat} {pa : Nat → Nat} {ke : Nat → Nat} {to : Nat → Nat} {wg : Nat → Nat} {we : Nat → Nat} {th : Nat} {pcs : Nat} {brs : Nat} {be : Nat → Nat} {po : Nat → Nat} {ro : Nat → Nat} {kf : Nat → Nat → Nat} {bg : Nat → Nat} {en : Nat → Nat} {Q : Option Value → mH → Prop} (hb : pre.length = b) (hb60 : brs ≤ 40) (hs0 : sq 0 ≤ 40) (hv : BQ (sq 0) bg en brs) (hQ : Q (some (.int (nI (mxN (fun j => lnN (sq 0) (bg j) (en j)) brs)))) (mR b pre tn lt un kp ap wb tx sq pa ke to wg we th pcs brs be po ro kf bg en)) : Rn mprog (d + 2) n_M_longest [.ref b] (mR b pre tn lt un kp ap wb tx sq pa ke to wg we th pcs brs be po ro kf bg en) Q := by
  refine Rn.in rfl rfl rfl ?_
  show WP _ _ _ _ 0 [.ref b, .long 0, .long 0] [] (mR b pre tn lt un kp ap wb tx sq pa ke to wg we th pcs brs be po ro kf bg en)
  refine wq_iconst (v := nI 0) rfl (by decide) ?_
  refine wq_istore_n (lv' := [.ref b, .int (nI 0), .long 0]) rfl rfl rfl ?_
  refine wq_iconst (v := nI 0) rfl (by decide) ?_
  refine wq_istore_n (lv' := [.ref b, .int (nI 0), .int (nI 0)]) rfl rfl rfl ?_
  exact l_M_longest hb hb60 hs0 hv hQ brs 0 (by omega)
theorem l_M_sets {d b : Nat} {pre : mH} {tn : Nat} {lt : Nat} {un : Nat} {kp : Nat} {ap : Nat} {wb : Nat} {tx : Nat → Nat} {sq : Nat → Nat} {pa : Nat → Nat} {ke : Nat → Nat} {to : Nat → Nat} {wg : Nat → Nat} {we : Nat → Nat} {th : Nat} {pcs : Nat} {brs : Nat} {be : Nat → Nat} {po : Nat → Nat} {ro : Nat → Nat} {kf : Nat → Nat → Nat} {bg : Nat → Nat} {en : Nat → Nat} {Q : Option Value → mH → Prop} (hb : pre.length = b) (hb60 : brs ≤ 40) (hQ : Q none (mR b pre tn lt un kp ap brs tx sq pa ke to (cpA bg wg brs) (cpA en we brs) th pcs brs be po ro kf bg en)) : ∀ (m i : Nat), i + m = brs → WP (Rn mprog (d + 0)) k_M_sets none Q 10 [.ref b, .int (nI i)] [] (mR b pre tn lt un kp ap brs tx sq pa ke to (cpA bg wg i) (cpA en we i) th pcs brs be po ro kf bg en) := by
  intro m
  induction m with
  | zero =>
    intro i hi
    have e : i = brs := by omega
    subst e
    refine wq_iload_n rfl rfl ?_
    refine wq_aload_n rfl rfl ?_
    refine wq_getfield (v := .int (nI i)) rfl (mS_o hb) rfl ?_
    refine wn_ic_ge rfl (by omega) (by omega) (fun c15 => ?_) (fun c15 => absurd c15 (by omega))
    refine wq_vret rfl rfl ?_
    exact hQ
  | succ m ih =>
    intro i hi
    refine wq_iload_n rfl rfl ?_
    refine wq_aload_n rfl rfl ?_
    refine wq_getfield (v := .int (nI brs)) rfl (mS_o hb) rfl ?_
    refine wn_ic_ge rfl (by omega) (by omega) (fun c15 => absurd c15 (by omega)) (fun c15 => ?_)
    refine wq_aload_n rfl rfl ?_
    refine wq_getfield (v := .ref (b + 12)) rfl (mS_o hb) rfl ?_
    refine wq_iload_n rfl rfl ?_
    refine wq_aload_n rfl rfl ?_
    refine wq_getfield (v := .ref (b + 9)) rfl (mS_o hb) rfl ?_
    refine wq_iload_n rfl rfl ?_
    refine wn_iaload (g := bg) rfl (mS_a14 hb) (by omega) (by decide) ?_
    refine wn_iastore (g := (cpA bg wg i)) (h' := mR b pre tn lt un kp ap brs tx sq pa ke to (uN' ((cpA bg wg i)) i (bg i)) (cpA en we i) th pcs brs be po ro kf bg en) rfl (mS_a19 hb) (by omega) (by decide) (mS_t19 hb) ?_
    refine wq_aload_n rfl rfl ?_
    refine wq_getfield (v := .ref (b + 13)) rfl (mS_o hb) rfl ?_
    refine wq_iload_n rfl rfl ?_
    refine wq_aload_n rfl rfl ?_
    refine wq_getfield (v := .ref (b + 10)) rfl (mS_o hb) rfl ?_
    refine wq_iload_n rfl rfl ?_
    refine wn_iaload (g := en) rfl (mS_a15 hb) (by omega) (by decide) ?_
    refine wn_iastore (g := (cpA en we i)) (h' := mR b pre tn lt un kp ap brs tx sq pa ke to (uN' ((cpA bg wg i)) i (bg i)) (uN' ((cpA en we i)) i (en i)) th pcs brs be po ro kf bg en) rfl (mS_a20 hb) (by omega) (by decide) (mS_t20 hb) ?_
    refine wn_inc (lv' := [.ref b, .int (nI (i + 1))]) rfl rfl rfl ?_
    refine wq_goto rfl ?_
    rw [cpA_s, cpA_s]
    exact ih (i + 1) (by omega)
theorem r_M_sets {d b : Nat} {pre : mH} {tn : Nat} {lt : Nat} {un : Nat} {kp : Nat} {ap : Nat} {wb : Nat} {tx : Nat → Nat} {sq : Nat → Nat} {pa : Nat → Nat} {ke : Nat → Nat} {to : Nat → Nat} {wg : Nat → Nat} {we : Nat → Nat} {th : Nat} {pcs : Nat} {brs : Nat} {be : Nat → Nat} {po : Nat → Nat} {ro : Nat → Nat} {kf : Nat → Nat → Nat} {bg : Nat → Nat} {en : Nat → Nat} {Q : Option Value → mH → Prop} (hb : pre.length = b) (hb60 : brs ≤ 40) (hQ : Q none (mR b pre tn lt un kp ap brs tx sq pa ke to (cpA bg wg brs) (cpA en we brs) th pcs brs be po ro kf bg en)) : Rn mprog (d + 1) n_M_sets [.ref b] (mR b pre tn lt un kp ap wb tx sq pa ke to wg we th pcs brs be po ro kf bg en) Q := by
  refine Rn.in rfl rfl rfl ?_
  show WP _ _ _ _ 0 [.ref b, .long 0] [] (mR b pre tn lt un kp ap wb tx sq pa ke to wg we th pcs brs be po ro kf bg en)
  refine wq_aload_n rfl rfl ?_
  refine wq_aload_n rfl rfl ?_
  refine wq_getfield (v := .int (nI brs)) rfl (mS_o hb) rfl ?_
  refine wq_putfield (h' := mR b pre tn lt un kp ap brs tx sq pa ke to wg we th pcs brs be po ro kf bg en) rfl (mS_o hb) rfl (mS_s21 hb) ?_
  refine wq_iconst (v := nI 0) rfl (by decide) ?_
  refine wq_istore_n (lv' := [.ref b, .int (nI 0)]) rfl rfl rfl ?_
  have q := l_M_sets (d := d) (wb := brs) hb hb60 hQ brs 0 (by omega)
  rw [cpA_0, cpA_0] at q
  exact q
theorem r_M_swaps {d b : Nat} {pre : mH} {tn : Nat} {lt : Nat} {un : Nat} {kp : Nat} {ap : Nat} {wb : Nat} {tx : Nat → Nat} {sq : Nat → Nat} {pa : Nat → Nat} {ke : Nat → Nat} {to : Nat → Nat} {wg : Nat → Nat} {we : Nat → Nat} {th : Nat} {pcs : Nat} {brs : Nat} {be : Nat → Nat} {po : Nat → Nat} {ro : Nat → Nat} {kf : Nat → Nat → Nat} {bg : Nat → Nat} {en : Nat → Nat} {Q : Option Value → mH → Prop} (hb : pre.length = b) {k : Nat} (hk : k < 40) (hQ : Q none (mR b pre tn lt un kp ap wb tx (uN' (uN' sq k (sq (k + 1))) (k + 1) (sq k)) pa ke to wg we th pcs brs be po ro kf bg en)) : Rn mprog (d + 1) n_M_swaps [.ref b, .int (nI k)] (mR b pre tn lt un kp ap wb tx sq pa ke to wg we th pcs brs be po ro kf bg en) Q := by
  refine Rn.in rfl rfl rfl ?_
  show WP _ _ _ _ 0 [.ref b, .int (nI k), .long 0] [] (mR b pre tn lt un kp ap wb tx sq pa ke to wg we th pcs brs be po ro kf bg en)
  refine wq_aload_n rfl rfl ?_
  refine wq_getfield (v := .ref (b + 2)) rfl (mS_o hb) rfl ?_
  refine wq_iload_n rfl rfl ?_
  refine wn_iaload (g := sq) rfl (mS_a3 hb) (by omega) (by decide) ?_
  refine wq_istore_n (lv' := [.ref b, .int (nI k), .int (nI (sq k))]) rfl rfl rfl ?_
  refine wq_aload_n rfl rfl ?_
  refine wq_getfield (v := .ref (b + 2)) rfl (mS_o hb) rfl ?_
  refine wq_iload_n rfl rfl ?_
  refine wq_aload_n rfl rfl ?_
  refine wq_getfield (v := .ref (b + 2)) rfl (mS_o hb) rfl ?_
  refine wq_iload_n rfl rfl ?_
  refine wq_iconst (v := nI 1) rfl (by decide) ?_
  refine wn_iadd rfl ?_
  refine wn_iaload (g := sq) rfl (mS_a3 hb) (by omega) (by decide) ?_
  refine wn_iastore (g := sq) (h' := mR b pre tn lt un kp ap wb tx (uN' sq k (sq (k + 1))) pa ke to wg we th pcs brs be po ro kf bg en) rfl (mS_a3 hb) (by omega) (by decide) (mS_t3 hb) ?_
  refine wq_aload_n rfl rfl ?_
  refine wq_getfield (v := .ref (b + 2)) rfl (mS_o hb) rfl ?_
  refine wq_iload_n rfl rfl ?_
  refine wq_iconst (v := nI 1) rfl (by decide) ?_
  refine wn_iadd rfl ?_
  refine wq_iload_n rfl rfl ?_
  refine wn_iastore (g := (uN' sq k (sq (k + 1)))) (h' := mR b pre tn lt un kp ap wb tx (uN' ((uN' sq k (sq (k + 1)))) (k + 1) (sq k)) pa ke to wg we th pcs brs be po ro kf bg en) rfl (mS_a3 hb) (by omega) (by decide) (mS_t3 hb) ?_
  refine wq_vret rfl rfl ?_
  exact hQ
theorem l_M_others {d b : Nat} {pre : mH} {tn : Nat} {lt : Nat} {un : Nat} {kp : Nat} {ap : Nat} {wb : Nat} {tx : Nat → Nat} {sq : Nat → Nat} {pa : Nat → Nat} {ke : Nat → Nat} {to : Nat → Nat} {wg : Nat → Nat} {we : Nat → Nat} {th : Nat} {pcs : Nat} {brs : Nat} {be : Nat → Nat} {po : Nat → Nat} {ro : Nat → Nat} {kf : Nat → Nat → Nat} {bg : Nat → Nat} {en : Nat → Nat} {Q : Option Value → mH → Prop} (hb : pre.length = b) (hb60 : brs ≤ 40) (hw60 : wb ≤ 40) (hv : ∀ i, i < brs → BV (bg i, en i)) (hw : ∀ i, i < wb → BV (wg i, we i)) (hQ : Q (some (.int (nI (wb - pzz wg we bg en wb brs (wb + brs) 0 0)))) (mR b pre tn lt un kp ap wb tx sq pa ke to wg we th pcs brs be po ro kf bg en)) : ∀ t, (∀ (i k nn : Nat), wb - i + (brs - k) ≤ t → i < wb → k ≤ brs → nn + (wb - i) = (wb - pzz wg we bg en wb brs (wb + brs) 0 0) + pzz wg we bg en wb brs t i k → WP (Rn mprog d) k_M_others (some .int) Q 32 [.ref b, .int (nI nn), .int (nI k), .int (nI i), .int (nI (99 * wg i + we i))] [] (mR b pre tn lt un kp ap wb tx sq pa ke to wg we th pcs brs be po ro kf bg en)) ∧ (∀ (i k nn : Nat) (v4 : Value), wb - i + (brs - k) ≤ t → i ≤ wb → k ≤ brs → nn + (wb - i) = (wb - pzz wg we bg en wb brs (wb + brs) 0 0) + pzz wg we bg en wb brs t i k → WP (Rn mprog d) k_M_others (some .int) Q 6 [.ref b, .int (nI nn), .int (nI k), .int (nI i), v4] [] (mR b pre tn lt un kp ap wb tx sq pa ke to wg we th pcs brs be po ro kf bg en)) := by
  intro t
  induction t with
  | zero =>
    refine ⟨fun i k nn h1 h2 => absurd h1 (by omega), fun i k nn v4 h1 h2 h3 h4 => ?_⟩
    have ei : i = wb := by omega
    rw [pzz_end (i := i) (j := k) (by omega)] at h4
    have e4 : nn = (wb - pzz wg we bg en wb brs (wb + brs) 0 0) := by omega
    subst e4
    refine wq_iload_n rfl rfl ?_
    refine wq_aload_n rfl rfl ?_
    refine wq_getfield (v := .int (nI wb)) rfl (mS_o hb) rfl ?_
    refine wn_ic_ge rfl (by omega) (by omega) (fun c11 => ?_) (fun c11 => absurd c11 (by omega))
    refine wq_iload_n rfl rfl ?_
    refine wq_iret rfl trivial ?_
    exact hQ
  | succ t ih =>
    have inner : ∀ (i k nn : Nat), wb - i + (brs - k) ≤ t + 1 → i < wb → k ≤ brs → nn + (wb - i) = (wb - pzz wg we bg en wb brs (wb + brs) 0 0) + pzz wg we bg en wb brs (t + 1) i k → WP (Rn mprog d) k_M_others (some .int) Q 32 [.ref b, .int (nI nn), .int (nI k), .int (nI i), .int (nI (99 * wg i + we i))] [] (mR b pre tn lt un kp ap wb tx sq pa ke to wg we th pcs brs be po ro kf bg en) := by
      intro i k nn h1 h2 h3 h4
      obtain ⟨v1, v2, v3, v4⟩ := hw i h2
      dsimp only at v1 v2 v3 v4
      rw [pzz_s] at h4
      refine wq_iload_n rfl rfl ?_
      refine wq_aload_n rfl rfl ?_
      refine wq_getfield (v := .int (nI brs)) rfl (mS_o hb) rfl ?_
      refine wn_ic_ge rfl (by omega) (by omega) (fun c37 => ?_) (fun c37 => ?_)
      · skip
        refine wq_iload_n rfl rfl ?_
        refine wq_aload_n rfl rfl ?_
        refine wq_getfield (v := .int (nI brs)) rfl (mS_o hb) rfl ?_
        refine wn_ic_ge rfl (by omega) (by omega) (fun c72 => ?_) (fun c72 => absurd c72 (by omega))
        refine wn_inc (lv' := [.ref b, .int (nI (nn + 1)), .int (nI k), .int (nI i), .int (nI (99 * wg i + we i))]) rfl rfl rfl ?_
        refine wn_inc (lv' := [.ref b, .int (nI (nn + 1)), .int (nI k), .int (nI (i + 1)), .int (nI (99 * wg i + we i))]) rfl rfl rfl ?_
        refine wq_goto rfl ?_
        rw [if_neg (by omega)] at h4
        exact ih.2 (i + 1) k (nn + 1) _ (by omega) (by omega) h3 (by rw [pzz_end (i := i + 1) (j := k) (by omega)]; omega)
      · skip
        obtain ⟨u1, u2, u3, u4⟩ := hv k c37
        dsimp only at u1 u2 u3 u4
        refine wq_bipush (v := nI 99) rfl (by decide) ?_
        refine wq_aload_n rfl rfl ?_
        refine wq_getfield (v := .ref (b + 9)) rfl (mS_o hb) rfl ?_
        refine wq_iload_n rfl rfl ?_
        refine wn_iaload (g := bg) rfl (mS_a14 hb) (by omega) (by decide) ?_
        refine wn_imul rfl ?_
        refine wq_aload_n rfl rfl ?_
        refine wq_getfield (v := .ref (b + 10)) rfl (mS_o hb) rfl ?_
        refine wq_iload_n rfl rfl ?_
        refine wn_iaload (g := en) rfl (mS_a15 hb) (by omega) (by decide) ?_
        refine wn_iadd rfl ?_
        refine wq_iload rfl rfl ?_
        refine wn_ic_ge rfl (by omega) (by omega) (fun c58 => ?_) (fun c58 => ?_)
        · skip
          refine wq_iload_n rfl rfl ?_
          refine wq_aload_n rfl rfl ?_
          refine wq_getfield (v := .int (nI brs)) rfl (mS_o hb) rfl ?_
          refine wn_ic_ge rfl (by omega) (by omega) (fun c72 => absurd c72 (by omega)) (fun c72 => ?_)
          refine wq_bipush (v := nI 99) rfl (by decide) ?_
          refine wq_aload_n rfl rfl ?_
          refine wq_getfield (v := .ref (b + 9)) rfl (mS_o hb) rfl ?_
          refine wq_iload_n rfl rfl ?_
          refine wn_iaload (g := bg) rfl (mS_a14 hb) (by omega) (by decide) ?_
          refine wn_imul rfl ?_
          refine wq_aload_n rfl rfl ?_
          refine wq_getfield (v := .ref (b + 10)) rfl (mS_o hb) rfl ?_
          refine wq_iload_n rfl rfl ?_
          refine wn_iaload (g := en) rfl (mS_a15 hb) (by omega) (by decide) ?_
          refine wn_iadd rfl ?_
          refine wq_iload rfl rfl ?_
          refine wn_ic_ne rfl (by omega) (by omega) (fun c93 => ?_) (fun c93 => ?_)
          · skip
            refine wn_inc (lv' := [.ref b, .int (nI (nn + 1)), .int (nI k), .int (nI i), .int (nI (99 * wg i + we i))]) rfl rfl rfl ?_
            refine wn_inc (lv' := [.ref b, .int (nI (nn + 1)), .int (nI k), .int (nI (i + 1)), .int (nI (99 * wg i + we i))]) rfl rfl rfl ?_
            refine wq_goto rfl ?_
            rw [if_pos ⟨h2, c37⟩, if_pos (by omega)] at h4
            exact ih.2 (i + 1) k (nn + 1) _ (by omega) (by omega) h3 (by omega)
          · skip
            refine wn_inc (lv' := [.ref b, .int (nI nn), .int (nI (k + 1)), .int (nI i), .int (nI (99 * wg i + we i))]) rfl rfl rfl ?_
            refine wq_goto rfl ?_
            refine wn_inc (lv' := [.ref b, .int (nI nn), .int (nI (k + 1)), .int (nI (i + 1)), .int (nI (99 * wg i + we i))]) rfl rfl rfl ?_
            refine wq_goto rfl ?_
            rw [if_pos ⟨h2, c37⟩, if_neg (by omega), if_pos (by omega)] at h4
            exact ih.2 (i + 1) (k + 1) nn _ (by omega) (by omega) (by omega) (by omega)
        · skip
          refine wn_inc (lv' := [.ref b, .int (nI nn), .int (nI (k + 1)), .int (nI i), .int (nI (99 * wg i + we i))]) rfl rfl rfl ?_
          refine wq_goto rfl ?_
          rw [if_pos ⟨h2, c37⟩, if_neg (by omega), if_neg (by omega)] at h4
          exact ih.1 i (k + 1) nn (by omega) h2 (by omega) h4
    refine ⟨inner, fun i k nn v4 h1 h2 h3 h4 => ?_⟩
    rcases Nat.lt_or_eq_of_le h2 with r | r
    · have K := inner i k nn h1 r h3 h4
      obtain ⟨u1, u2, u3, u4⟩ := hw i r
      refine wq_iload_n rfl rfl ?_
      refine wq_aload_n rfl rfl ?_
      refine wq_getfield (v := .int (nI wb)) rfl (mS_o hb) rfl ?_
      refine wn_ic_ge rfl (by omega) (by omega) (fun c11 => absurd c11 (by omega)) (fun c11 => ?_)
      refine wq_bipush (v := nI 99) rfl (by decide) ?_
      refine wq_aload_n rfl rfl ?_
      refine wq_getfield (v := .ref (b + 12)) rfl (mS_o hb) rfl ?_
      refine wq_iload_n rfl rfl ?_
      refine wn_iaload (g := wg) rfl (mS_a19 hb) (by omega) (by decide) ?_
      refine wn_imul rfl ?_
      refine wq_aload_n rfl rfl ?_
      refine wq_getfield (v := .ref (b + 13)) rfl (mS_o hb) rfl ?_
      refine wq_iload_n rfl rfl ?_
      refine wn_iaload (g := we) rfl (mS_a20 hb) (by omega) (by decide) ?_
      refine wn_iadd rfl ?_
      refine wq_istore (lv' := [.ref b, .int (nI nn), .int (nI k), .int (nI i), .int (nI ((99 * (wg i)) + (we i)))]) rfl rfl rfl ?_
      exact K
    · rw [pzz_end (i := i) (j := k) (by omega)] at h4
      have e4 : nn = (wb - pzz wg we bg en wb brs (wb + brs) 0 0) := by omega
      subst e4
      refine wq_iload_n rfl rfl ?_
      refine wq_aload_n rfl rfl ?_
      refine wq_getfield (v := .int (nI wb)) rfl (mS_o hb) rfl ?_
      refine wn_ic_ge rfl (by omega) (by omega) (fun c11 => ?_) (fun c11 => absurd c11 (by omega))
      refine wq_iload_n rfl rfl ?_
      refine wq_iret rfl trivial ?_
      exact hQ
theorem r_M_others {d b : Nat} {pre : mH} {tn : Nat} {lt : Nat} {un : Nat} {kp : Nat} {ap : Nat} {wb : Nat} {tx : Nat → Nat} {sq : Nat → Nat} {pa : Nat → Nat} {ke : Nat → Nat} {to : Nat → Nat} {wg : Nat → Nat} {we : Nat → Nat} {th : Nat} {pcs : Nat} {brs : Nat} {be : Nat → Nat} {po : Nat → Nat} {ro : Nat → Nat} {kf : Nat → Nat → Nat} {bg : Nat → Nat} {en : Nat → Nat} {Q : Option Value → mH → Prop} (hb : pre.length = b) (hb60 : brs ≤ 40) (hw60 : wb ≤ 40) (hv : ∀ i, i < brs → BV (bg i, en i)) (hw : ∀ i, i < wb → BV (wg i, we i)) (hQ : Q (some (.int (nI (wb - pzz wg we bg en wb brs (wb + brs) 0 0)))) (mR b pre tn lt un kp ap wb tx sq pa ke to wg we th pcs brs be po ro kf bg en)) : Rn mprog (d + 1) n_M_others [.ref b] (mR b pre tn lt un kp ap wb tx sq pa ke to wg we th pcs brs be po ro kf bg en) Q := by
  refine Rn.in rfl rfl rfl ?_
  show WP _ _ _ _ 0 [.ref b, .long 0, .long 0, .long 0, .long 0] [] (mR b pre tn lt un kp ap wb tx sq pa ke to wg we th pcs brs be po ro kf bg en)
  refine wq_iconst (v := nI 0) rfl (by decide) ?_
  refine wq_istore_n (lv' := [.ref b, .int (nI 0), .long 0, .long 0, .long 0]) rfl rfl rfl ?_
  refine wq_iconst (v := nI 0) rfl (by decide) ?_
  refine wq_istore_n (lv' := [.ref b, .int (nI 0), .int (nI 0), .long 0, .long 0]) rfl rfl rfl ?_
  refine wq_iconst (v := nI 0) rfl (by decide) ?_
  refine wq_istore_n (lv' := [.ref b, .int (nI 0), .int (nI 0), .int (nI 0), .long 0]) rfl rfl rfl ?_
  have hle := pzz_le (f := wg) (g := we) (f' := bg) (g' := en) (nn := wb) (mm := brs) (wb + brs) 0 0
  exact (l_M_others hb hb60 hw60 hv hw hQ (wb + brs)).2 0 0 0 _ (by omega) (by omega) (by omega) (by omega)
/-- a row of 41 numbers put into another one -/
def blk (g : Nat → Nat) (off : Nat) (s : Nat → Nat) (i : Nat) : Nat → Nat := fun j => if off ≤ j ∧ j < off + i then s (j - off) else g j
theorem blk_0 (g : Nat → Nat) (off : Nat) (s : Nat → Nat) : blk g off s 0 = g := by
  funext j
  unfold blk
  rw [if_neg (by omega)]
theorem blk_s {g s : Nat → Nat} {off i : Nat} : uN' (blk g off s i) (off + i) (s i) = blk g off s (i + 1) := by
  funext j
  unfold uN' blk
  by_cases e : j = off + i
  · subst e
    rw [if_pos rfl, if_pos (by omega)]
    congr 1
    omega
  · rw [if_neg e]
    by_cases z : off ≤ j ∧ j < off + i
    · rw [if_pos z, if_pos (by omega)]
    · rw [if_neg z, if_neg (by omega)]
def shF (g : Nat → Nat) (i : Nat) : Nat → Nat := fun j => if j < i then g (j + 41) else g j
theorem shF_0 (g : Nat → Nat) : shF g 0 = g := by
  funext j
  unfold shF
  rw [if_neg (Nat.not_lt_zero j)]
theorem shF_s {g : Nat → Nat} {i : Nat} : uN' (shF g i) i (shF g i (i + 41)) = shF g (i + 1) := by
  funext j
  unfold uN' shF
  by_cases e : j = i
  · subst e
    rw [if_pos rfl, if_pos (Nat.lt_succ_self j), if_neg (by omega)]
  · rw [if_neg e]
    by_cases z : j < i
    · rw [if_pos z, if_pos (by omega)]
    · rw [if_neg z, if_neg (by omega)]
theorem l_M_notes2 {d b : Nat} {pre : mH} {tn : Nat} {lt : Nat} {un : Nat} {kp : Nat} {ap : Nat} {wb : Nat} {tx : Nat → Nat} {sq : Nat → Nat} {pa : Nat → Nat} {ke : Nat → Nat} {to : Nat → Nat} {wg : Nat → Nat} {we : Nat → Nat} {th : Nat} {pcs : Nat} {brs : Nat} {be : Nat → Nat} {po : Nat → Nat} {ro : Nat → Nat} {kf : Nat → Nat → Nat} {bg : Nat → Nat} {en : Nat → Nat} {Q : Option Value → mH → Prop} (hb : pre.length = b) (hu : un < 6) (hQ : Q none (mR b pre tn lt (un + 1) kp ap wb tx sq (blk pa (41 * un) sq 41) ke to wg we th pcs brs be po ro kf bg en)) : ∀ (m i : Nat), i + m = 41 → WP (Rn mprog (d + 0)) k_M_notes none Q 51 [.ref b, .int (nI i)] [] (mR b pre tn lt un kp ap wb tx sq (blk pa (41 * un) sq i) ke to wg we th pcs brs be po ro kf bg en) := by
  intro m
  induction m with
  | zero =>
    intro i hi
    have e : i = 41 := by omega
    subst e
    refine wq_iload_n rfl rfl ?_
    refine wq_bipush (v := nI 41) rfl (by decide) ?_
    refine wq_ic_ge rfl (fun _ => ?_) (fun c => absurd c (by decide))
    refine wq_aload_n rfl rfl ?_
    refine wq_dup rfl rfl ?_
    refine wq_getfield (v := .int (nI un)) rfl (mS_o hb) rfl ?_
    refine wq_iconst (v := nI 1) rfl (by decide) ?_
    refine wn_iadd rfl ?_
    refine wq_putfield (h' := mR b pre tn lt (un + 1) kp ap wb tx sq (blk pa (41 * un) sq 41) ke to wg we th pcs brs be po ro kf bg en) rfl (mS_o hb) rfl (mS_s5 hb) ?_
    refine wq_vret rfl rfl ?_
    exact hQ
  | succ m ih =>
    intro i hi
    refine wq_iload_n rfl rfl ?_
    refine wq_bipush (v := nI 41) rfl (by decide) ?_
    refine wn_ic_ge rfl (by omega) (by omega) (fun c54 => absurd c54 (by omega)) (fun c54 => ?_)
    refine wq_aload_n rfl rfl ?_
    refine wq_getfield (v := .ref (b + 3)) rfl (mS_o hb) rfl ?_
    refine wq_bipush (v := nI 41) rfl (by decide) ?_
    refine wq_aload_n rfl rfl ?_
    refine wq_getfield (v := .int (nI un)) rfl (mS_o hb) rfl ?_
    refine wn_imul rfl ?_
    refine wq_iload_n rfl rfl ?_
    refine wn_iadd rfl ?_
    refine wq_aload_n rfl rfl ?_
    refine wq_getfield (v := .ref (b + 2)) rfl (mS_o hb) rfl ?_
    refine wq_iload_n rfl rfl ?_
    refine wn_iaload (g := sq) rfl (mS_a3 hb) (by omega) (by decide) ?_
    refine wn_iastore (g := (blk pa (41 * un) sq i)) (h' := mR b pre tn lt un kp ap wb tx sq (uN' ((blk pa (41 * un) sq i)) ((41 * un) + i) (sq i)) ke to wg we th pcs brs be po ro kf bg en) rfl (mS_a4 hb) (by omega) (by decide) (mS_t4 hb) ?_
    refine wn_inc (lv' := [.ref b, .int (nI (i + 1))]) rfl rfl rfl ?_
    refine wq_goto rfl ?_
    rw [blk_s]
    exact ih (i + 1) (by omega)
theorem l_M_notes1 {d b : Nat} {pre : mH} {tn : Nat} {lt : Nat} {un : Nat} {kp : Nat} {ap : Nat} {wb : Nat} {tx : Nat → Nat} {sq : Nat → Nat} {pa : Nat → Nat} {ke : Nat → Nat} {to : Nat → Nat} {wg : Nat → Nat} {we : Nat → Nat} {th : Nat} {pcs : Nat} {brs : Nat} {be : Nat → Nat} {po : Nat → Nat} {ro : Nat → Nat} {kf : Nat → Nat → Nat} {bg : Nat → Nat} {en : Nat → Nat} {Q : Option Value → mH → Prop} (hb : pre.length = b) (k : WP (Rn mprog d) k_M_notes none Q 49 [.ref b, .int (nI 205)] [] (mR b pre tn lt 5 kp ap wb tx sq (shF pa 205) ke to wg we th pcs brs be po ro kf bg en)) : ∀ (m i : Nat), i + m = 205 → WP (Rn mprog d) k_M_notes none Q 11 [.ref b, .int (nI i)] [] (mR b pre tn lt 6 kp ap wb tx sq (shF pa i) ke to wg we th pcs brs be po ro kf bg en) := by
  intro m
  induction m with
  | zero =>
    intro i hi
    have e : i = 205 := by omega
    subst e
    refine wq_iload_n rfl rfl ?_
    refine wq_sipush (v := nI 205) rfl (by decide) ?_
    refine wq_ic_ge rfl (fun _ => ?_) (fun c => absurd c (by decide))
    refine wq_aload_n rfl rfl ?_
    refine wq_dup rfl rfl ?_
    refine wq_getfield (v := .int (nI 6)) rfl (mS_o hb) rfl ?_
    refine wq_iconst (v := nI 1) rfl (by decide) ?_
    refine wq_isub (v := nI 5) rfl (by decide) ?_
    refine wq_putfield (h' := mR b pre tn lt 5 kp ap wb tx sq (shF pa 205) ke to wg we th pcs brs be po ro kf bg en) rfl (mS_o hb) rfl (mS_s5 hb) ?_
    exact k
  | succ m ih =>
    intro i hi
    refine wq_iload_n rfl rfl ?_
    refine wq_sipush (v := nI 205) rfl (by decide) ?_
    refine wn_ic_ge rfl (by omega) (by omega) (fun c15 => absurd c15 (by omega)) (fun c15 => ?_)
    refine wq_aload_n rfl rfl ?_
    refine wq_getfield (v := .ref (b + 3)) rfl (mS_o hb) rfl ?_
    refine wq_iload_n rfl rfl ?_
    refine wq_aload_n rfl rfl ?_
    refine wq_getfield (v := .ref (b + 3)) rfl (mS_o hb) rfl ?_
    refine wq_iload_n rfl rfl ?_
    refine wq_bipush (v := nI 41) rfl (by decide) ?_
    refine wn_iadd rfl ?_
    refine wn_iaload (g := (shF pa i)) rfl (mS_a4 hb) (by omega) (by decide) ?_
    refine wn_iastore (g := (shF pa i)) (h' := mR b pre tn lt 6 kp ap wb tx sq (uN' ((shF pa i)) i (((shF pa i)) (i + 41))) ke to wg we th pcs brs be po ro kf bg en) rfl (mS_a4 hb) (by omega) (by decide) (mS_t4 hb) ?_
    refine wn_inc (lv' := [.ref b, .int (nI (i + 1))]) rfl rfl rfl ?_
    refine wq_goto rfl ?_
    rw [shF_s]
    exact ih (i + 1) (by omega)
/-- what was known, with one more -/
def paN (un : Nat) (pa sq : Nat → Nat) : Nat → Nat := if un = 6 then blk (shF pa 205) 205 sq 41 else blk pa (41 * un) sq 41
def unN (un : Nat) : Nat := if un = 6 then 6 else un + 1
theorem r_M_notes {d b : Nat} {pre : mH} {tn : Nat} {lt : Nat} {un : Nat} {kp : Nat} {ap : Nat} {wb : Nat} {tx : Nat → Nat} {sq : Nat → Nat} {pa : Nat → Nat} {ke : Nat → Nat} {to : Nat → Nat} {wg : Nat → Nat} {we : Nat → Nat} {th : Nat} {pcs : Nat} {brs : Nat} {be : Nat → Nat} {po : Nat → Nat} {ro : Nat → Nat} {kf : Nat → Nat → Nat} {bg : Nat → Nat} {en : Nat → Nat} {Q : Option Value → mH → Prop} (hb : pre.length = b) (hu : un ≤ 6) (hQ : Q none (mR b pre tn lt (unN un) kp ap wb tx sq (paN un pa sq) ke to wg we th pcs brs be po ro kf bg en)) : Rn mprog (d + 1) n_M_notes [.ref b] (mR b pre tn lt un kp ap wb tx sq pa ke to wg we th pcs brs be po ro kf bg en) Q := by
  by_cases e6 : un = 6
  · subst e6
    have hQ5 : Q none (mR b pre tn lt 6 kp ap wb tx sq (blk (shF pa 205) 205 sq 41) ke to wg we th pcs brs be po ro kf bg en) := hQ
    have K : WP (Rn mprog d) k_M_notes none Q 49 [.ref b, .int (nI 205)] [] (mR b pre tn lt 5 kp ap wb tx sq (shF pa 205) ke to wg we th pcs brs be po ro kf bg en) := by
      refine wq_iconst (v := nI 0) rfl (by decide) ?_
      refine wq_istore_n (lv' := [.ref b, .int (nI 0)]) rfl rfl rfl ?_
      have q := l_M_notes2 (un := 5) (pa := shF pa 205) (d := d) (Q := Q) hb (by decide) hQ5 41 0 rfl
      rw [blk_0] at q
      exact q
    refine Rn.in rfl rfl rfl ?_
    show WP _ _ _ _ 0 [.ref b, .long 0] [] (mR b pre tn lt 6 kp ap wb tx sq pa ke to wg we th pcs brs be po ro kf bg en)
    refine wq_aload_n rfl rfl ?_
    refine wq_getfield (v := .int (nI 6)) rfl (mS_o hb) rfl ?_
    refine wq_bipush (v := nI 6) rfl (by decide) ?_
    refine wq_ic_ne rfl (fun c => absurd c (by decide)) (fun _ => ?_)
    refine wq_iconst (v := nI 0) rfl (by decide) ?_
    refine wq_istore_n (lv' := [.ref b, .int (nI 0)]) rfl rfl rfl ?_
    have q := l_M_notes1 (un := 6) hb K 205 0 rfl
    rw [shF_0] at q
    exact q
  · have hQ5 : Q none (mR b pre tn lt (un + 1) kp ap wb tx sq (blk pa (41 * un) sq 41) ke to wg we th pcs brs be po ro kf bg en) := by
      unfold paN unN at hQ
      rw [if_neg e6, if_neg e6] at hQ
      exact hQ
    refine Rn.in rfl rfl rfl ?_
    show WP _ _ _ _ 0 [.ref b, .long 0] [] (mR b pre tn lt un kp ap wb tx sq pa ke to wg we th pcs brs be po ro kf bg en)
    refine wq_aload_n rfl rfl ?_
    refine wq_getfield (v := .int (nI un)) rfl (mS_o hb) rfl ?_
    refine wq_bipush (v := nI 6) rfl (by decide) ?_
    refine wn_ic_ne rfl (by omega) (by omega) (fun c6 => ?_) (fun c6 => absurd c6 e6)
    refine wq_iconst (v := nI 0) rfl (by decide) ?_
    refine wq_istore_n (lv' := [.ref b, .int (nI 0)]) rfl rfl rfl ?_
    have q := l_M_notes2 (d := d) (Q := Q) hb (by omega) hQ5 41 0 rfl
    rw [blk_0] at q
    exact q
theorem l_M_over {d b : Nat} {pre : mH} {tn : Nat} {lt : Nat} {un : Nat} {kp : Nat} {ap : Nat} {wb : Nat} {tx : Nat → Nat} {sq : Nat → Nat} {pa : Nat → Nat} {ke : Nat → Nat} {to : Nat → Nat} {wg : Nat → Nat} {we : Nat → Nat} {th : Nat} {pcs : Nat} {brs : Nat} {be : Nat → Nat} {po : Nat → Nat} {ro : Nat → Nat} {kf : Nat → Nat → Nat} {bg : Nat → Nat} {en : Nat → Nat} {Q : Option Value → mH → Prop} (hb : pre.length = b) (hk1 : 1 ≤ kp) (hk2 : kp ≤ 2) (hQ : Q none (mR b pre tn lt un kp ap wb tx (cpA (fun j => ke (41 * kp - 41 + j)) sq 41) pa (blk ke (41 * kp - 41) sq 41) to wg we th pcs brs be po ro kf bg en)) : ∀ (m i : Nat), i + m = 41 → ∀ x : Value, WP (Rn mprog (d + 0)) k_M_turnsOver none Q 2 [.ref b, .int (nI i), x] [] (mR b pre tn lt un kp ap wb tx (cpA (fun j => ke (41 * kp - 41 + j)) sq i) pa (blk ke (41 * kp - 41) sq i) to wg we th pcs brs be po ro kf bg en) := by
  intro m
  induction m with
  | zero =>
    intro i hi x
    have e : i = 41 := by omega
    subst e
    refine wq_iload_n rfl rfl ?_
    refine wq_bipush (v := nI 41) rfl (by decide) ?_
    refine wq_ic_ge rfl (fun _ => ?_) (fun c => absurd c (by decide))
    refine wq_vret rfl rfl ?_
    exact hQ
  | succ m ih =>
    intro i hi x
    have e1 : cpA (fun j => ke (41 * kp - 41 + j)) sq i i = sq i := by unfold cpA; rw [if_neg (Nat.lt_irrefl i)]
    have e2 : blk ke (41 * kp - 41) sq i (41 * kp - 41 + i) = ke (41 * kp - 41 + i) := by unfold blk; rw [if_neg (by omega)]
    have e3 : uN' (cpA (fun j => ke (41 * kp - 41 + j)) sq i) i (ke (41 * kp - 41 + i)) = cpA (fun j => ke (41 * kp - 41 + j)) sq (i + 1) := cpA_s _ _ _
    refine wq_iload_n rfl rfl ?_
    refine wq_bipush (v := nI 41) rfl (by decide) ?_
    refine wn_ic_ge rfl (by omega) (by omega) (fun c5 => absurd c5 (by omega)) (fun c5 => ?_)
    refine wq_aload_n rfl rfl ?_
    refine wq_getfield (v := .ref (b + 2)) rfl (mS_o hb) rfl ?_
    refine wq_iload_n rfl rfl ?_
    refine wn_iaload (g := (cpA (fun j => ke (41 * kp - 41 + j)) sq i)) rfl (mS_a3 hb) (by omega) (by decide) ?_
    refine wq_istore_n (lv' := [.ref b, .int (nI i), .int (nI (((cpA (fun j => ke (41 * kp - 41 + j)) sq i)) i))]) rfl rfl rfl ?_
    refine wq_aload_n rfl rfl ?_
    refine wq_getfield (v := .ref (b + 2)) rfl (mS_o hb) rfl ?_
    refine wq_iload_n rfl rfl ?_
    refine wq_aload_n rfl rfl ?_
    refine wq_getfield (v := .ref (b + 4)) rfl (mS_o hb) rfl ?_
    refine wq_bipush (v := nI 41) rfl (by decide) ?_
    refine wq_aload_n rfl rfl ?_
    refine wq_getfield (v := .int (nI kp)) rfl (mS_o hb) rfl ?_
    refine wn_imul rfl ?_
    refine wq_bipush (v := nI 41) rfl (by decide) ?_
    refine wn_isub rfl (by omega) ?_
    refine wq_iload_n rfl rfl ?_
    refine wn_iadd rfl ?_
    refine wn_iaload (g := (blk ke (41 * kp - 41) sq i)) rfl (mS_a6 hb) (by omega) (by decide) ?_
    refine wn_iastore (g := (cpA (fun j => ke (41 * kp - 41 + j)) sq i)) (h' := mR b pre tn lt un kp ap wb tx (uN' ((cpA (fun j => ke (41 * kp - 41 + j)) sq i)) i (((blk ke (41 * kp - 41) sq i)) (((41 * kp) - 41) + i))) pa (blk ke (41 * kp - 41) sq i) to wg we th pcs brs be po ro kf bg en) rfl (mS_a3 hb) (by omega) (by decide) (mS_t3 hb) ?_
    refine wq_aload_n rfl rfl ?_
    refine wq_getfield (v := .ref (b + 4)) rfl (mS_o hb) rfl ?_
    refine wq_bipush (v := nI 41) rfl (by decide) ?_
    refine wq_aload_n rfl rfl ?_
    refine wq_getfield (v := .int (nI kp)) rfl (mS_o hb) rfl ?_
    refine wn_imul rfl ?_
    refine wq_bipush (v := nI 41) rfl (by decide) ?_
    refine wn_isub rfl (by omega) ?_
    refine wq_iload_n rfl rfl ?_
    refine wn_iadd rfl ?_
    refine wq_iload_n rfl rfl ?_
    refine wn_iastore (g := (blk ke (41 * kp - 41) sq i)) (h' := mR b pre tn lt un kp ap wb tx (uN' ((cpA (fun j => ke (41 * kp - 41 + j)) sq i)) i (((blk ke (41 * kp - 41) sq i)) (((41 * kp) - 41) + i))) pa (uN' ((blk ke (41 * kp - 41) sq i)) (((41 * kp) - 41) + i) (((cpA (fun j => ke (41 * kp - 41 + j)) sq i)) i)) to wg we th pcs brs be po ro kf bg en) rfl (mS_a6 hb) (by omega) (by decide) (mS_t6 hb) ?_
    refine wn_inc (lv' := [.ref b, .int (nI (i + 1)), .int (nI (((cpA (fun j => ke (41 * kp - 41 + j)) sq i)) i))]) rfl rfl rfl ?_
    refine wq_goto rfl ?_
    rw [e1, e2, blk_s, e3]
    exact ih (i + 1) (by omega) _
theorem r_M_over {d b : Nat} {pre : mH} {tn : Nat} {lt : Nat} {un : Nat} {kp : Nat} {ap : Nat} {wb : Nat} {tx : Nat → Nat} {sq : Nat → Nat} {pa : Nat → Nat} {ke : Nat → Nat} {to : Nat → Nat} {wg : Nat → Nat} {we : Nat → Nat} {th : Nat} {pcs : Nat} {brs : Nat} {be : Nat → Nat} {po : Nat → Nat} {ro : Nat → Nat} {kf : Nat → Nat → Nat} {bg : Nat → Nat} {en : Nat → Nat} {Q : Option Value → mH → Prop} (hb : pre.length = b) (hk1 : 1 ≤ kp) (hk2 : kp ≤ 2) (hQ : Q none (mR b pre tn lt un kp ap wb tx (cpA (fun j => ke (41 * kp - 41 + j)) sq 41) pa (blk ke (41 * kp - 41) sq 41) to wg we th pcs brs be po ro kf bg en)) : Rn mprog (d + 1) n_M_turnsOver [.ref b] (mR b pre tn lt un kp ap wb tx sq pa ke to wg we th pcs brs be po ro kf bg en) Q := by
  refine Rn.in rfl rfl rfl ?_
  show WP _ _ _ _ 0 [.ref b, .long 0, .long 0] [] (mR b pre tn lt un kp ap wb tx sq pa ke to wg we th pcs brs be po ro kf bg en)
  refine wq_iconst (v := nI 0) rfl (by decide) ?_
  refine wq_istore_n (lv' := [.ref b, .int (nI 0), .long 0]) rfl rfl rfl ?_
  have q := l_M_over (d := d) (Q := Q) hb hk1 hk2 hQ 41 0 rfl (.long 0)
  rw [blk_0, cpA_0] at q
  exact q
