/-! Bars: lengths and counts; Net: pieces and loops -/
/-- the last graph of a bar -/
def laE (acts e : Nat) : Nat := if e = 99 then acts else e - 1
/-- in how many graphs a bar lasts -/
def lnN (acts x e : Nat) : Nat := laE acts e + 1 - x
/-- bars' numbers are right -/
def BQ (acts : Nat) (f g : Nat → Nat) (nn : Nat) : Prop := ∀ i, i < nn → BV (f i, g i) ∧ f i ≤ laE acts (g i) + 1
theorem laE_le {acts e : Nat} (h1 : acts ≤ 40) (h2 : e ≤ 99) : laE acts e ≤ 99 := by
  unfold laE
  split <;> omega
theorem lnN_le {acts x e : Nat} (h1 : acts ≤ 40) (h2 : e ≤ 99) : lnN acts x e ≤ 100 := by
  have := laE_le h1 h2
  unfold lnN
  omega
def mxN (f : Nat → Nat) : Nat → Nat
  | 0 => 0
  | i + 1 => max (mxN f i) (f i)
theorem mxN_le {f : Nat → Nat} {m : Nat} : ∀ i, (∀ j, j < i → f j ≤ m) → mxN f i ≤ m
  | 0, _ => Nat.zero_le _
  | i + 1, h => by
    unfold mxN
    have h1 := mxN_le i (fun j hj => h j (by omega))
    have h2 := h i (Nat.lt_succ_self i)
    omega
theorem mxN_congr {f g : Nat → Nat} : ∀ i, (∀ j, j < i → f j = g j) → mxN f i = mxN g i
  | 0, _ => rfl
  | i + 1, h => by
    unfold mxN
    rw [mxN_congr i (fun j hj => h j (by omega)), h i (Nat.lt_succ_self i)]
theorem r_Bars_lastOf {d c bsz bop : Nat} {bbg ben : Nat → Nat} {h : mH} {Q : Option Value → mH → Prop} (ho : h[c]? = some (.inr (0, [.ref (c + 1), .ref (c + 2), .int (nI bsz), .int (nI bop)]))) (h1 : h[c + 1]? = some (.inl (0, 40, .inl (nA bbg)))) (h2 : h[c + 2]? = some (.inl (0, 40, .inl (nA ben)))) (hn : bsz ≤ 40) {acts : Nat} (ha : acts ≤ 40) (hv : BQ acts bbg ben bsz) {i : Nat} (hi : i < bsz) (hQ : Q (some (.int (nI (laE acts (ben i))))) h) : Rn mprog (d + 2) n_Bars_lastOf [.ref c, .int (nI i), .int (nI acts)] h Q := by
  obtain ⟨⟨v1, v2, v3, v4⟩, v5⟩ := hv i hi
  dsimp only at v1 v2 v3 v4
  refine Rn.in rfl rfl rfl ?_
  show WP _ _ _ _ 0 [.ref c, .int (nI i), .int (nI acts), .long 0] [] h
  refine wq_aload_n rfl rfl ?_
  refine wq_iload_n rfl rfl ?_
  refine wq_virt (b := c) (a := [.int (nI i)]) (rest := []) rfl rfl rfl rfl rfl ho ?_
  refine r_Bars_endOf ho h1 h2 hn (by omega) ?_
  show WP _ _ _ _ 5 [.ref c, .int (nI i), .int (nI acts), .long 0] [.int (nI (ben i))] h
  refine wq_istore_n (lv' := [.ref c, .int (nI i), .int (nI acts), .int (nI (ben i))]) rfl rfl rfl ?_
  refine wq_iload_n rfl rfl ?_
  refine wq_bipush (v := nI 99) rfl (by decide) ?_
  refine wn_ic_ne rfl (by omega) (by omega) (fun c9 => ?_) (fun c9 => ?_)
  · skip
    refine wq_iload_n rfl rfl ?_
    refine wq_iconst (v := nI 1) rfl (by decide) ?_
    refine wn_isub rfl (by omega) ?_
    refine wq_iret rfl trivial ?_
    rw [show laE acts (ben i) = ben i - 1 from if_neg c9] at hQ
    exact hQ
  · skip
    refine wq_iload_n rfl rfl ?_
    refine wq_goto rfl ?_
    refine wq_iret rfl trivial ?_
    rw [show laE acts (ben i) = acts from if_pos c9] at hQ
    exact hQ
theorem r_Bars_lengthOf {d c bsz bop : Nat} {bbg ben : Nat → Nat} {h : mH} {Q : Option Value → mH → Prop} (ho : h[c]? = some (.inr (0, [.ref (c + 1), .ref (c + 2), .int (nI bsz), .int (nI bop)]))) (h1 : h[c + 1]? = some (.inl (0, 40, .inl (nA bbg)))) (h2 : h[c + 2]? = some (.inl (0, 40, .inl (nA ben)))) (hn : bsz ≤ 40) {acts : Nat} (ha : acts ≤ 40) (hv : BQ acts bbg ben bsz) {i : Nat} (hi : i < bsz) (hQ : Q (some (.int (nI (lnN acts (bbg i) (ben i))))) h) : Rn mprog (d + 3) n_Bars_lengthOf [.ref c, .int (nI i), .int (nI acts)] h Q := by
  obtain ⟨-, v5⟩ := hv i hi
  refine Rn.in rfl rfl rfl ?_
  show WP _ _ _ _ 0 [.ref c, .int (nI i), .int (nI acts)] [] h
  refine wq_aload_n rfl rfl ?_
  refine wq_iload_n rfl rfl ?_
  refine wq_iload_n rfl rfl ?_
  refine wq_virt (b := c) (a := [.int (nI i), .int (nI acts)]) (rest := []) rfl rfl rfl rfl rfl ho ?_
  refine r_Bars_lastOf ho h1 h2 hn ha hv (by omega) ?_
  show WP _ _ _ _ 6 [.ref c, .int (nI i), .int (nI acts)] [.int (nI (laE acts (ben i)))] h
  refine wq_iconst (v := nI 1) rfl (by decide) ?_
  refine wn_iadd rfl ?_
  refine wq_aload_n rfl rfl ?_
  refine wq_iload_n rfl rfl ?_
  refine wq_virt (b := c) (a := [.int (nI i)]) (rest := [.int (nI ((laE acts (ben i)) + 1))]) rfl rfl rfl rfl rfl ho ?_
  refine r_Bars_beginOf ho h1 h2 hn (by omega) ?_
  show WP _ _ _ _ 13 [.ref c, .int (nI i), .int (nI acts)] [.int (nI (bbg i)), .int (nI ((laE acts (ben i)) + 1))] h
  refine wn_isub rfl (by omega) ?_
  refine wq_iret rfl trivial ?_
  exact hQ
theorem l_Bars_longest {d c bsz bop : Nat} {bbg ben : Nat → Nat} {h : mH} {Q : Option Value → mH → Prop} (ho : h[c]? = some (.inr (0, [.ref (c + 1), .ref (c + 2), .int (nI bsz), .int (nI bop)]))) (h1 : h[c + 1]? = some (.inl (0, 40, .inl (nA bbg)))) (h2 : h[c + 2]? = some (.inl (0, 40, .inl (nA ben)))) (hn : bsz ≤ 40) {acts : Nat} (ha : acts ≤ 40) (hv : BQ acts bbg ben bsz)  (hQ : Q (some (.int (nI (mxN (fun j => lnN acts (bbg j) (ben j)) bsz)))) h) : ∀ (m i : Nat), i + m = bsz → WP (Rn mprog (d + 3)) k_Bars_longest (some .int) Q 4 [.ref c, .int (nI acts), .int (nI (mxN (fun j => lnN acts (bbg j) (ben j)) i)), .int (nI i)] [] h := by
  intro m
  induction m with
  | zero =>
    intro i hi
    have e : i = bsz := by omega
    subst e
    refine wq_iload_n rfl rfl ?_
    refine wq_aload_n rfl rfl ?_
    refine wq_getfield (v := .int (nI i)) rfl ho rfl ?_
    refine wn_ic_ge rfl (by omega) (by omega) (fun c9 => ?_) (fun c9 => absurd c9 (by omega))
    refine wq_iload_n rfl rfl ?_
    refine wq_iret rfl trivial ?_
    exact hQ
  | succ m ih =>
    intro i hi
    obtain ⟨⟨v1, v2, v3, v4⟩, v5⟩ := hv i (by omega)
    dsimp only at v1 v2 v3 v4
    have q1 := lnN_le (x := bbg i) ha v4
    have q2 := mxN_le (f := (fun j => lnN acts (bbg j) (ben j))) (m := 100) i (fun j hj => lnN_le ha (hv j (by omega)).1.2.2.2)
    refine wq_iload_n rfl rfl ?_
    refine wq_aload_n rfl rfl ?_
    refine wq_getfield (v := .int (nI bsz)) rfl ho rfl ?_
    refine wn_ic_ge rfl (by omega) (by omega) (fun c9 => absurd c9 (by omega)) (fun c9 => ?_)
    refine wq_iload_n rfl rfl ?_
    refine wq_aload_n rfl rfl ?_
    refine wq_iload_n rfl rfl ?_
    refine wq_iload_n rfl rfl ?_
    refine wq_virt (b := c) (a := [.int (nI i), .int (nI acts)]) (rest := [.int (nI (mxN (fun j => lnN acts (bbg j) (ben j)) i))]) rfl rfl rfl rfl rfl ho ?_
    refine r_Bars_lengthOf ho h1 h2 hn ha hv (by omega) ?_
    show WP _ _ _ _ 19 [.ref c, .int (nI acts), .int (nI (mxN (fun j => lnN acts (bbg j) (ben j)) i)), .int (nI i)] [.int (nI (lnN acts (bbg i) (ben i))), .int (nI (mxN (fun j => lnN acts (bbg j) (ben j)) i))] h
    refine wn_max rfl rfl (by omega) (by omega) rfl ?_
    refine wq_istore_n (lv' := [.ref c, .int (nI acts), .int (nI (max (mxN (fun j => lnN acts (bbg j) (ben j)) i) (lnN acts (bbg i) (ben i)))), .int (nI i)]) rfl rfl rfl ?_
    refine wn_inc (lv' := [.ref c, .int (nI acts), .int (nI (max (mxN (fun j => lnN acts (bbg j) (ben j)) i) (lnN acts (bbg i) (ben i)))), .int (nI (i + 1))]) rfl rfl rfl ?_
    refine wq_goto rfl ?_
    exact ih (i + 1) (by omega)
theorem r_Bars_longest {d c bsz bop : Nat} {bbg ben : Nat → Nat} {h : mH} {Q : Option Value → mH → Prop} (ho : h[c]? = some (.inr (0, [.ref (c + 1), .ref (c + 2), .int (nI bsz), .int (nI bop)]))) (h1 : h[c + 1]? = some (.inl (0, 40, .inl (nA bbg)))) (h2 : h[c + 2]? = some (.inl (0, 40, .inl (nA ben)))) (hn : bsz ≤ 40) {acts : Nat} (ha : acts ≤ 40) (hv : BQ acts bbg ben bsz)  (hQ : Q (some (.int (nI (mxN (fun j => lnN acts (bbg j) (ben j)) bsz)))) h) : Rn mprog (d + 4) n_Bars_longest [.ref c, .int (nI acts)] h Q := by
  refine Rn.in rfl rfl rfl ?_
  show WP _ _ _ _ 0 [.ref c, .int (nI acts), .long 0, .long 0] [] h
  refine wq_iconst (v := nI 0) rfl (by decide) ?_
  refine wq_istore_n (lv' := [.ref c, .int (nI acts), .int (nI 0), .long 0]) rfl rfl rfl ?_
  refine wq_iconst (v := nI 0) rfl (by decide) ?_
  refine wq_istore_n (lv' := [.ref c, .int (nI acts), .int (nI 0), .int (nI 0)]) rfl rfl rfl ?_
  exact l_Bars_longest ho h1 h2 hn ha hv  hQ bsz 0 (by omega)
theorem l_Bars_atLeast {d c bsz bop : Nat} {bbg ben : Nat → Nat} {h : mH} {Q : Option Value → mH → Prop} (ho : h[c]? = some (.inr (0, [.ref (c + 1), .ref (c + 2), .int (nI bsz), .int (nI bop)]))) (h1 : h[c + 1]? = some (.inl (0, 40, .inl (nA bbg)))) (h2 : h[c + 2]? = some (.inl (0, 40, .inl (nA ben)))) (hn : bsz ≤ 40) {acts : Nat} (ha : acts ≤ 40) (hv : BQ acts bbg ben bsz) {mm : Nat} (hmm : mm < 1000) (hQ : Q (some (.int (nI (cntA (fun j => Nat.ble mm (lnN acts (bbg j) (ben j))) bsz)))) h) : ∀ (m i : Nat), i + m = bsz → WP (Rn mprog (d + 3)) k_Bars_atLeast (some .int) Q 5 [.ref c, .int (nI mm), .int (nI acts), .int (nI (cntA (fun j => Nat.ble mm (lnN acts (bbg j) (ben j))) i)), .int (nI i)] [] h := by
  intro m
  induction m with
  | zero =>
    intro i hi
    have e : i = bsz := by omega
    subst e
    refine wq_iload rfl rfl ?_
    refine wq_aload_n rfl rfl ?_
    refine wq_getfield (v := .int (nI i)) rfl ho rfl ?_
    refine wn_ic_ge rfl (by omega) (by omega) (fun c11 => ?_) (fun c11 => absurd c11 (by omega))
    refine wq_iload_n rfl rfl ?_
    refine wq_iret rfl trivial ?_
    exact hQ
  | succ m ih =>
    intro i hi
    obtain ⟨⟨v1, v2, v3, v4⟩, v5⟩ := hv i (by omega)
    dsimp only at v1 v2 v3 v4
    have q1 := lnN_le (x := bbg i) ha v4
    refine wq_iload rfl rfl ?_
    refine wq_aload_n rfl rfl ?_
    refine wq_getfield (v := .int (nI bsz)) rfl ho rfl ?_
    refine wn_ic_ge rfl (by omega) (by omega) (fun c11 => absurd c11 (by omega)) (fun c11 => ?_)
    refine wq_aload_n rfl rfl ?_
    refine wq_iload rfl rfl ?_
    refine wq_iload_n rfl rfl ?_
    refine wq_virt (b := c) (a := [.int (nI i), .int (nI acts)]) (rest := []) rfl rfl rfl rfl rfl ho ?_
    refine r_Bars_lengthOf ho h1 h2 hn ha hv (by omega) ?_
    show WP _ _ _ _ 21 [.ref c, .int (nI mm), .int (nI acts), .int (nI (cntA (fun j => Nat.ble mm (lnN acts (bbg j) (ben j))) i)), .int (nI i)] [.int (nI (lnN acts (bbg i) (ben i)))] h
    refine wq_iload_n rfl rfl ?_
    refine wn_ic_lt rfl (by omega) (by omega) (fun c22 => ?_) (fun c22 => ?_)
    · skip
      refine wn_inc (lv' := [.ref c, .int (nI mm), .int (nI acts), .int (nI (cntA (fun j => Nat.ble mm (lnN acts (bbg j) (ben j))) i)), .int (nI (i + 1))]) rfl rfl rfl ?_
      refine wq_goto rfl ?_
      have q := ih (i + 1) (by omega)
      unfold cntA at q
      rw [if_neg (by show ¬ Nat.ble mm (lnN acts (bbg i) (ben i)) = true; rw [Nat.ble_eq]; omega)] at q
      exact q
    · skip
      refine wn_inc (lv' := [.ref c, .int (nI mm), .int (nI acts), .int (nI (cntA (fun j => Nat.ble mm (lnN acts (bbg j) (ben j))) i + 1)), .int (nI i)]) rfl rfl rfl ?_
      refine wn_inc (lv' := [.ref c, .int (nI mm), .int (nI acts), .int (nI (cntA (fun j => Nat.ble mm (lnN acts (bbg j) (ben j))) i + 1)), .int (nI (i + 1))]) rfl rfl rfl ?_
      refine wq_goto rfl ?_
      have q := ih (i + 1) (by omega)
      unfold cntA at q
      rw [if_pos (by show Nat.ble mm (lnN acts (bbg i) (ben i)) = true; rw [Nat.ble_eq]; omega)] at q
      exact q
theorem r_Bars_atLeast {d c bsz bop : Nat} {bbg ben : Nat → Nat} {h : mH} {Q : Option Value → mH → Prop} (ho : h[c]? = some (.inr (0, [.ref (c + 1), .ref (c + 2), .int (nI bsz), .int (nI bop)]))) (h1 : h[c + 1]? = some (.inl (0, 40, .inl (nA bbg)))) (h2 : h[c + 2]? = some (.inl (0, 40, .inl (nA ben)))) (hn : bsz ≤ 40) {acts : Nat} (ha : acts ≤ 40) (hv : BQ acts bbg ben bsz) {mm : Nat} (hmm : mm < 1000) (hQ : Q (some (.int (nI (cntA (fun j => Nat.ble mm (lnN acts (bbg j) (ben j))) bsz)))) h) : Rn mprog (d + 4) n_Bars_atLeast [.ref c, .int (nI mm), .int (nI acts)] h Q := by
  refine Rn.in rfl rfl rfl ?_
  show WP _ _ _ _ 0 [.ref c, .int (nI mm), .int (nI acts), .long 0, .long 0] [] h
  refine wq_iconst (v := nI 0) rfl (by decide) ?_
  refine wq_istore_n (lv' := [.ref c, .int (nI mm), .int (nI acts), .int (nI 0), .long 0]) rfl rfl rfl ?_
  refine wq_iconst (v := nI 0) rfl (by decide) ?_
  refine wq_istore (lv' := [.ref c, .int (nI mm), .int (nI acts), .int (nI 0), .int (nI 0)]) rfl rfl rfl ?_
  exact l_Bars_atLeast ho h1 h2 hn ha hv hmm hQ bsz 0 (by omega)
theorem l_Bars_spanning {d c bsz bop : Nat} {bbg ben : Nat → Nat} {h : mH} {Q : Option Value → mH → Prop} (ho : h[c]? = some (.inr (0, [.ref (c + 1), .ref (c + 2), .int (nI bsz), .int (nI bop)]))) (h1 : h[c + 1]? = some (.inl (0, 40, .inl (nA bbg)))) (h2 : h[c + 2]? = some (.inl (0, 40, .inl (nA ben)))) (hn : bsz ≤ 40) {acts : Nat} (ha : acts ≤ 40) (hv : BQ acts bbg ben bsz) {fi la : Nat} (hfi : fi < 1000) (hla : la < 1000) (hQ : Q (some (.int (nI (cntA (fun j => Nat.ble (bbg j) fi && Nat.ble la (laE acts (ben j))) bsz)))) h) : ∀ (m i : Nat), i + m = bsz → WP (Rn mprog (d + 2)) k_Bars_spanning (some .int) Q 6 [.ref c, .int (nI fi), .int (nI la), .int (nI acts), .int (nI (cntA (fun j => Nat.ble (bbg j) fi && Nat.ble la (laE acts (ben j))) i)), .int (nI i)] [] h := by
  intro m
  induction m with
  | zero =>
    intro i hi
    have e : i = bsz := by omega
    subst e
    refine wq_iload rfl rfl ?_
    refine wq_aload_n rfl rfl ?_
    refine wq_getfield (v := .int (nI i)) rfl ho rfl ?_
    refine wn_ic_ge rfl (by omega) (by omega) (fun c12 => ?_) (fun c12 => absurd c12 (by omega))
    refine wq_iload rfl rfl ?_
    refine wq_iret rfl trivial ?_
    exact hQ
  | succ m ih =>
    intro i hi
    obtain ⟨⟨v1, v2, v3, v4⟩, v5⟩ := hv i (by omega)
    dsimp only at v1 v2 v3 v4
    have q1 := laE_le ha v4
    refine wq_iload rfl rfl ?_
    refine wq_aload_n rfl rfl ?_
    refine wq_getfield (v := .int (nI bsz)) rfl ho rfl ?_
    refine wn_ic_ge rfl (by omega) (by omega) (fun c12 => absurd c12 (by omega)) (fun c12 => ?_)
    refine wq_aload_n rfl rfl ?_
    refine wq_iload rfl rfl ?_
    refine wq_virt (b := c) (a := [.int (nI i)]) (rest := []) rfl rfl rfl rfl rfl ho ?_
    refine r_Bars_beginOf ho h1 h2 hn (by omega) ?_
    show WP _ _ _ _ 21 [.ref c, .int (nI fi), .int (nI la), .int (nI acts), .int (nI (cntA (fun j => Nat.ble (bbg j) fi && Nat.ble la (laE acts (ben j))) i)), .int (nI i)] [.int (nI (bbg i))] h
    refine wq_iload_n rfl rfl ?_
    refine wn_ic_gt rfl (by omega) (by omega) (fun c22 => ?_) (fun c22 => ?_)
    · skip
      refine wn_inc (lv' := [.ref c, .int (nI fi), .int (nI la), .int (nI acts), .int (nI (cntA (fun j => Nat.ble (bbg j) fi && Nat.ble la (laE acts (ben j))) i)), .int (nI (i + 1))]) rfl rfl rfl ?_
      refine wq_goto rfl ?_
      have q := ih (i + 1) (by omega)
      unfold cntA at q
      rw [if_neg (by show ¬ (Nat.ble (bbg i) fi && Nat.ble la (laE acts (ben i))) = true; rw [Bool.and_eq_true, Nat.ble_eq, Nat.ble_eq]; omega)] at q
      exact q
    · skip
      refine wq_aload_n rfl rfl ?_
      refine wq_iload rfl rfl ?_
      refine wq_iload_n rfl rfl ?_
      refine wq_virt (b := c) (a := [.int (nI i), .int (nI acts)]) (rest := []) rfl rfl rfl rfl rfl ho ?_
      refine r_Bars_lastOf ho h1 h2 hn ha hv (by omega) ?_
      show WP _ _ _ _ 32 [.ref c, .int (nI fi), .int (nI la), .int (nI acts), .int (nI (cntA (fun j => Nat.ble (bbg j) fi && Nat.ble la (laE acts (ben j))) i)), .int (nI i)] [.int (nI (laE acts (ben i)))] h
      refine wq_iload_n rfl rfl ?_
      refine wn_ic_lt rfl (by omega) (by omega) (fun c33 => ?_) (fun c33 => ?_)
      · skip
        refine wn_inc (lv' := [.ref c, .int (nI fi), .int (nI la), .int (nI acts), .int (nI (cntA (fun j => Nat.ble (bbg j) fi && Nat.ble la (laE acts (ben j))) i)), .int (nI (i + 1))]) rfl rfl rfl ?_
        refine wq_goto rfl ?_
        have q := ih (i + 1) (by omega)
        unfold cntA at q
        rw [if_neg (by show ¬ (Nat.ble (bbg i) fi && Nat.ble la (laE acts (ben i))) = true; rw [Bool.and_eq_true, Nat.ble_eq, Nat.ble_eq]; omega)] at q
        exact q
      · skip
        refine wn_inc (lv' := [.ref c, .int (nI fi), .int (nI la), .int (nI acts), .int (nI (cntA (fun j => Nat.ble (bbg j) fi && Nat.ble la (laE acts (ben j))) i + 1)), .int (nI i)]) rfl rfl rfl ?_
        refine wn_inc (lv' := [.ref c, .int (nI fi), .int (nI la), .int (nI acts), .int (nI (cntA (fun j => Nat.ble (bbg j) fi && Nat.ble la (laE acts (ben j))) i + 1)), .int (nI (i + 1))]) rfl rfl rfl ?_
        refine wq_goto rfl ?_
        have q := ih (i + 1) (by omega)
        unfold cntA at q
        rw [if_pos (by show (Nat.ble (bbg i) fi && Nat.ble la (laE acts (ben i))) = true; rw [Bool.and_eq_true, Nat.ble_eq, Nat.ble_eq]; omega)] at q
        exact q
theorem r_Bars_spanning {d c bsz bop : Nat} {bbg ben : Nat → Nat} {h : mH} {Q : Option Value → mH → Prop} (ho : h[c]? = some (.inr (0, [.ref (c + 1), .ref (c + 2), .int (nI bsz), .int (nI bop)]))) (h1 : h[c + 1]? = some (.inl (0, 40, .inl (nA bbg)))) (h2 : h[c + 2]? = some (.inl (0, 40, .inl (nA ben)))) (hn : bsz ≤ 40) {acts : Nat} (ha : acts ≤ 40) (hv : BQ acts bbg ben bsz) {fi la : Nat} (hfi : fi < 1000) (hla : la < 1000) (hQ : Q (some (.int (nI (cntA (fun j => Nat.ble (bbg j) fi && Nat.ble la (laE acts (ben j))) bsz)))) h) : Rn mprog (d + 3) n_Bars_spanning [.ref c, .int (nI fi), .int (nI la), .int (nI acts)] h Q := by
  refine Rn.in rfl rfl rfl ?_
  show WP _ _ _ _ 0 [.ref c, .int (nI fi), .int (nI la), .int (nI acts), .long 0, .long 0] [] h
  refine wq_iconst (v := nI 0) rfl (by decide) ?_
  refine wq_istore (lv' := [.ref c, .int (nI fi), .int (nI la), .int (nI acts), .int (nI 0), .long 0]) rfl rfl rfl ?_
  refine wq_iconst (v := nI 0) rfl (by decide) ?_
  refine wq_istore (lv' := [.ref c, .int (nI fi), .int (nI la), .int (nI acts), .int (nI 0), .int (nI 0)]) rfl rfl rfl ?_
  exact l_Bars_spanning ho h1 h2 hn ha hv hfi hla hQ bsz 0 (by omega)
/-- how many pairs of like bars two rows of bars have, from i and j on -/
def pzz (f g f' g' : Nat → Nat) (nn mm : Nat) : Nat → Nat → Nat → Nat
  | 0, _, _ => 0
  | t + 1, i, j => if i < nn ∧ j < mm then (if f i < f' j ∨ (f i = f' j ∧ g i < g' j) then pzz f g f' g' nn mm t (i + 1) j else if f i = f' j ∧ g i = g' j then pzz f g f' g' nn mm t (i + 1) (j + 1) + 1 else pzz f g f' g' nn mm t i (j + 1)) else 0
theorem pzz_s (f g f' g' : Nat → Nat) (nn mm t i j : Nat) : pzz f g f' g' nn mm (t + 1) i j = if i < nn ∧ j < mm then (if f i < f' j ∨ (f i = f' j ∧ g i < g' j) then pzz f g f' g' nn mm t (i + 1) j else if f i = f' j ∧ g i = g' j then pzz f g f' g' nn mm t (i + 1) (j + 1) + 1 else pzz f g f' g' nn mm t i (j + 1)) else 0 := rfl
theorem pzz_le {f g f' g' : Nat → Nat} {nn mm : Nat} : ∀ t i j, pzz f g f' g' nn mm t i j ≤ nn - i
  | 0, _, _ => Nat.zero_le _
  | t + 1, i, j => by
    unfold pzz
    have h1 := pzz_le (f := f) (g := g) (f' := f') (g' := g') (nn := nn) (mm := mm) t (i + 1) j
    have h2 := pzz_le (f := f) (g := g) (f' := f') (g' := g') (nn := nn) (mm := mm) t (i + 1) (j + 1)
    have h3 := pzz_le (f := f) (g := g) (f' := f') (g' := g') (nn := nn) (mm := mm) t i (j + 1)
    split
    · split
      · omega
      · split <;> omega
    · omega
theorem pzz_end {f g f' g' : Nat → Nat} {nn mm i j : Nat} (h : ¬ (i < nn ∧ j < mm)) : ∀ t, pzz f g f' g' nn mm t i j = 0
  | 0 => rfl
  | t + 1 => by
    unfold pzz
    rw [if_neg h]
theorem pzz_fuel {f g f' g' : Nat → Nat} {nn mm : Nat} : ∀ t u i j, nn - i + (mm - j) ≤ t → nn - i + (mm - j) ≤ u → pzz f g f' g' nn mm t i j = pzz f g f' g' nn mm u i j
  | 0, u, i, j, h, _ => by rw [pzz_end (by omega), pzz_end (by omega)]
  | t + 1, 0, i, j, _, h => by rw [pzz_end (by omega), pzz_end (by omega)]
  | t + 1, u + 1, i, j, h, h' => by
    by_cases z : i < nn ∧ j < mm
    · unfold pzz
      rw [if_pos z, if_pos z, pzz_fuel t u (i + 1) j (by omega) (by omega), pzz_fuel t u (i + 1) (j + 1) (by omega) (by omega), pzz_fuel t u i (j + 1) (by omega) (by omega)]
    · rw [pzz_end z, pzz_end z]
theorem pzz_congr {f g f' g' p q p' q' : Nat → Nat} {nn mm : Nat} (h : ∀ i, i < nn → f i = p i ∧ g i = q i) (h' : ∀ i, i < mm → f' i = p' i ∧ g' i = q' i) : ∀ t i j, pzz f g f' g' nn mm t i j = pzz p q p' q' nn mm t i j
  | 0, _, _ => rfl
  | t + 1, i, j => by
    by_cases z : i < nn ∧ j < mm
    · unfold pzz
      rw [if_pos z, if_pos z, pzz_congr h h' t, pzz_congr h h' t, pzz_congr h h' t, (h i z.1).1, (h i z.1).2, (h' j z.2).1, (h' j z.2).2]
    · rw [pzz_end z, pzz_end z]
theorem l_Bars_wp {d c bsz bop : Nat} {bbg ben : Nat → Nat} {h : mH} {Q : Option Value → mH → Prop} (ho : h[c]? = some (.inr (0, [.ref (c + 1), .ref (c + 2), .int (nI bsz), .int (nI bop)]))) (h1 : h[c + 1]? = some (.inl (0, 40, .inl (nA bbg)))) (h2 : h[c + 2]? = some (.inl (0, 40, .inl (nA ben)))) (hn : bsz ≤ 40) {dsz dop : Nat} {f' g' : Nat → Nat} {e : Nat} (go : h[e]? = some (.inr (0, [.ref (e + 1), .ref (e + 2), .int (nI dsz), .int (nI dop)]))) (g1 : h[e + 1]? = some (.inl (0, 40, .inl (nA f')))) (g2 : h[e + 2]? = some (.inl (0, 40, .inl (nA g')))) (gn : dsz ≤ 40) (hv : ∀ i, i < bsz → bbg i < 2 ^ 31 ∧ ben i < 2 ^ 31) (gv : ∀ i, i < dsz → f' i < 2 ^ 31 ∧ g' i < 2 ^ 31) (hQ : Q (some (.int (nI (bsz - pzz bbg ben f' g' bsz dsz (bsz + dsz) 0 0)))) h) : ∀ (t i j p : Nat) (v5 : Value), bsz - i + (dsz - j) ≤ t → i ≤ bsz → j ≤ dsz → p + pzz bbg ben f' g' bsz dsz t i j = pzz bbg ben f' g' bsz dsz (bsz + dsz) 0 0 → WP (Rn mprog (d + 2)) k_Bars_withoutPartnerIn (some .int) Q 7 [.ref c, .ref e, .int (nI p), .int (nI i), .int (nI j), v5] [] h := by
  have hle := pzz_le (f := bbg) (g := ben) (f' := f') (g' := g') (nn := bsz) (mm := dsz) (bsz + dsz) 0 0
  intro t
  induction t with
  | zero =>
    intro i j p v5 h3 h4 h5 h6
    rw [pzz_end (by omega)] at h6
    have e6 : p = pzz bbg ben f' g' bsz dsz (bsz + dsz) 0 0 := h6
    refine wq_iload_n rfl rfl ?_
    refine wq_aload_n rfl rfl ?_
    refine wq_getfield (v := .int (nI bsz)) rfl ho rfl ?_
    refine wn_ic_ge rfl (by omega) (by omega) (fun c12 => ?_) (fun c12 => absurd c12 (by omega))
    refine wq_aload_n rfl rfl ?_
    refine wq_getfield (v := .int (nI bsz)) rfl ho rfl ?_
    refine wq_iload_n rfl rfl ?_
    refine wn_isub rfl (by omega) ?_
    refine wq_iret rfl trivial ?_
    rw [e6]
    exact hQ
  | succ t ih =>
    intro i j p v5 h3 h4 h5 h6
    refine wq_iload_n rfl rfl ?_
    refine wq_aload_n rfl rfl ?_
    refine wq_getfield (v := .int (nI bsz)) rfl ho rfl ?_
    refine wn_ic_ge rfl (by omega) (by omega) (fun c12 => ?_) (fun c12 => ?_)
    · skip
      refine wq_aload_n rfl rfl ?_
      refine wq_getfield (v := .int (nI bsz)) rfl ho rfl ?_
      refine wq_iload_n rfl rfl ?_
      refine wn_isub rfl (by omega) ?_
      refine wq_iret rfl trivial ?_
      rw [pzz_end (by omega)] at h6
      have e6 : p = pzz bbg ben f' g' bsz dsz (bsz + dsz) 0 0 := h6
      rw [e6]
      exact hQ
    · skip
      refine wq_iload rfl rfl ?_
      refine wq_aload_n rfl rfl ?_
      refine wq_getfield (v := .int (nI dsz)) rfl go rfl ?_
      refine wn_ic_ge rfl (by omega) (by omega) (fun c21 => ?_) (fun c21 => ?_)
      · skip
        refine wq_aload_n rfl rfl ?_
        refine wq_getfield (v := .int (nI bsz)) rfl ho rfl ?_
        refine wq_iload_n rfl rfl ?_
        refine wn_isub rfl (by omega) ?_
        refine wq_iret rfl trivial ?_
        rw [pzz_end (by omega)] at h6
        have e6 : p = pzz bbg ben f' g' bsz dsz (bsz + dsz) 0 0 := h6
        rw [e6]
        exact hQ
      · skip
        refine wq_aload_n rfl rfl ?_
        refine wq_iload_n rfl rfl ?_
        refine wq_aload_n rfl rfl ?_
        refine wq_iload rfl rfl ?_
        refine wq_virt (b := e) (a := [.int (nI j)]) (rest := [.int (nI i), .ref c]) rfl rfl rfl rfl rfl go ?_
        refine r_Bars_beginOf go g1 g2 gn (by omega) ?_
        show WP _ _ _ _ 32 [.ref c, .ref e, .int (nI p), .int (nI i), .int (nI j), v5] [.int (nI (f' j)), .int (nI i), .ref c] h
        refine wq_aload_n rfl rfl ?_
        refine wq_iload rfl rfl ?_
        refine wq_virt (b := e) (a := [.int (nI j)]) (rest := [.int (nI (f' j)), .int (nI i), .ref c]) rfl rfl rfl rfl rfl go ?_
        refine r_Bars_endOf go g1 g2 gn (by omega) ?_
        show WP _ _ _ _ 38 [.ref c, .ref e, .int (nI p), .int (nI i), .int (nI j), v5] [.int (nI (g' j)), .int (nI (f' j)), .int (nI i), .ref c] h
        refine wq_virt (b := c) (a := [.int (nI i), .int (nI (f' j)), .int (nI (g' j))]) (rest := []) rfl rfl rfl rfl rfl ho ?_
        refine r_Bars_compare ho h1 h2 hn (by omega) (hv i (by omega)) (gv j (by omega)).1 (gv j (by omega)).2 (fun c38 => ?_) (fun c38 d38 => ?_) (fun c38 => ?_)
        · skip
          show WP _ _ _ _ 41 [.ref c, .ref e, .int (nI p), .int (nI i), .int (nI j), v5] [.int ((-1))] h
          refine wq_istore (lv' := [.ref c, .ref e, .int (nI p), .int (nI i), .int (nI j), .int ((-1))]) rfl rfl rfl ?_
          refine wq_iload rfl rfl ?_
          refine wq_if_ne rfl (fun c45 => ?_) (fun c45 => absurd c45 (by decide))
          refine wq_iload rfl rfl ?_
          refine wq_if_gt rfl (fun c53 => absurd c53 (by decide)) (fun c53 => ?_)
          refine wn_inc (lv' := [.ref c, .ref e, .int (nI p), .int (nI (i + 1)), .int (nI j), .int ((-1))]) rfl rfl rfl ?_
          refine wq_iload rfl rfl ?_
          refine wq_if_lt rfl (fun c61 => ?_) (fun c61 => absurd c61 (by decide))
          refine wq_goto rfl ?_
          rw [pzz_s] at h6
          rw [if_pos ⟨by omega, by omega⟩, if_pos c38] at h6
          exact ih (i + 1) j p _ (by omega) (by omega) h5 h6
        · skip
          show WP _ _ _ _ 41 [.ref c, .ref e, .int (nI p), .int (nI i), .int (nI j), v5] [.int (nI 0)] h
          refine wq_istore (lv' := [.ref c, .ref e, .int (nI p), .int (nI i), .int (nI j), .int (nI 0)]) rfl rfl rfl ?_
          refine wq_iload rfl rfl ?_
          refine wq_if_ne rfl (fun c => absurd c (by decide)) (fun _ => ?_)
          refine wn_inc (lv' := [.ref c, .ref e, .int (nI (p + 1)), .int (nI i), .int (nI j), .int (nI 0)]) rfl rfl rfl ?_
          refine wq_iload rfl rfl ?_
          refine wq_if_gt rfl (fun c => absurd c (by decide)) (fun _ => ?_)
          refine wn_inc (lv' := [.ref c, .ref e, .int (nI (p + 1)), .int (nI (i + 1)), .int (nI j), .int (nI 0)]) rfl rfl rfl ?_
          refine wq_iload rfl rfl ?_
          refine wq_if_lt rfl (fun c => absurd c (by decide)) (fun _ => ?_)
          refine wn_inc (lv' := [.ref c, .ref e, .int (nI (p + 1)), .int (nI (i + 1)), .int (nI (j + 1)), .int (nI 0)]) rfl rfl rfl ?_
          refine wq_goto rfl ?_
          rw [pzz_s] at h6
          rw [if_pos ⟨by omega, by omega⟩, if_neg (by omega), if_pos ⟨c38, d38⟩] at h6
          exact ih (i + 1) (j + 1) (p + 1) _ (by omega) (by omega) (by omega) (by omega)
        · skip
          show WP _ _ _ _ 41 [.ref c, .ref e, .int (nI p), .int (nI i), .int (nI j), v5] [.int (nI 1)] h
          refine wq_istore (lv' := [.ref c, .ref e, .int (nI p), .int (nI i), .int (nI j), .int (nI 1)]) rfl rfl rfl ?_
          refine wq_iload rfl rfl ?_
          refine wq_if_ne rfl (fun _ => ?_) (fun c => absurd c (by decide))
          refine wq_iload rfl rfl ?_
          refine wq_if_gt rfl (fun _ => ?_) (fun c => absurd c (by decide))
          refine wq_iload rfl rfl ?_
          refine wq_if_lt rfl (fun c => absurd c (by decide)) (fun _ => ?_)
          refine wn_inc (lv' := [.ref c, .ref e, .int (nI p), .int (nI i), .int (nI (j + 1)), .int (nI 1)]) rfl rfl rfl ?_
          refine wq_goto rfl ?_
          rw [pzz_s] at h6
          rw [if_pos ⟨by omega, by omega⟩, if_neg (by omega), if_neg (by omega)] at h6
          exact ih i (j + 1) p _ (by omega) h4 (by omega) h6
theorem r_Bars_wp {d c bsz bop : Nat} {bbg ben : Nat → Nat} {h : mH} {Q : Option Value → mH → Prop} (ho : h[c]? = some (.inr (0, [.ref (c + 1), .ref (c + 2), .int (nI bsz), .int (nI bop)]))) (h1 : h[c + 1]? = some (.inl (0, 40, .inl (nA bbg)))) (h2 : h[c + 2]? = some (.inl (0, 40, .inl (nA ben)))) (hn : bsz ≤ 40) {dsz dop : Nat} {f' g' : Nat → Nat} {e : Nat} (go : h[e]? = some (.inr (0, [.ref (e + 1), .ref (e + 2), .int (nI dsz), .int (nI dop)]))) (g1 : h[e + 1]? = some (.inl (0, 40, .inl (nA f')))) (g2 : h[e + 2]? = some (.inl (0, 40, .inl (nA g')))) (gn : dsz ≤ 40) (hv : ∀ i, i < bsz → bbg i < 2 ^ 31 ∧ ben i < 2 ^ 31) (gv : ∀ i, i < dsz → f' i < 2 ^ 31 ∧ g' i < 2 ^ 31) (hQ : Q (some (.int (nI (bsz - pzz bbg ben f' g' bsz dsz (bsz + dsz) 0 0)))) h) : Rn mprog (d + 3) n_Bars_withoutPartnerIn [.ref c, .ref e] h Q := by
  refine Rn.in rfl rfl rfl ?_
  show WP _ _ _ _ 0 [.ref c, .ref e, .long 0, .long 0, .long 0, .long 0] [] h
  refine wq_iconst (v := nI 0) rfl (by decide) ?_
  refine wq_istore_n (lv' := [.ref c, .ref e, .int (nI 0), .long 0, .long 0, .long 0]) rfl rfl rfl ?_
  refine wq_iconst (v := nI 0) rfl (by decide) ?_
  refine wq_istore_n (lv' := [.ref c, .ref e, .int (nI 0), .int (nI 0), .long 0, .long 0]) rfl rfl rfl ?_
  refine wq_iconst (v := nI 0) rfl (by decide) ?_
  refine wq_istore (lv' := [.ref c, .ref e, .int (nI 0), .int (nI 0), .int (nI 0), .long 0]) rfl rfl rfl ?_
  exact l_Bars_wp ho h1 h2 hn go g1 g2 gn hv gv hQ (bsz + dsz) 0 0 0 _ (by omega) (by omega) (by omega) (by omega)
/-- the pieces that were seen -/
def PcI (pts : Nat) (po : Nat → Nat) (pcs i seen L : Nat) : Prop :=
  (∀ t, t < 9 → pts.testBit t = true → (seen.testBit t = true ↔ L.testBit (po t) = true)) ∧ (∀ l, L.testBit l = true → pcs.testBit l = true) ∧ (∀ j, j < i → pts.testBit j = true → L.testBit (po j) = true) ∧ seen < 512 ∧ L < 512
theorem PcI_skip {pts pcs i seen L : Nat} {po : Nat → Nat} (hi : i < 9) (h : PcI pts po pcs i seen L) (hn : pts.testBit i = false ∨ seen.testBit i = true) : PcI pts po pcs (i + 1) seen L := by
  obtain ⟨h1, h2, h3, h4, h5⟩ := h
  refine ⟨h1, h2, fun j hj hp => ?_, h4, h5⟩
  rcases Nat.lt_or_eq_of_le (Nat.le_of_lt_succ hj) with r | r
  · exact h3 j r hp
  · subst r
    rcases hn with z | z
    · rw [z] at hp; cases hp
    · exact (h1 j hi hp).mp z
theorem PcI_new {pts pcs i seen L R : Nat} {nr po : Nat → Nat} (hi : i < 9) (hL : Lab pts nr po pcs) (h : PcI pts po pcs i seen L) (hR : IsR nr i R) (hp : pts.testBit i = true) (hs : seen.testBit i = false) : PcI pts po pcs (i + 1) (seen ||| R) (L ||| 1 <<< po i) ∧ popc (L ||| 1 <<< po i) 9 = popc L 9 + 1 := by
  obtain ⟨h1, h2, h3, h4, h5⟩ := h
  have hn : L.testBit (po i) = false := by
    cases q : L.testBit (po i)
    · rfl
    · rw [(h1 i hi hp).mpr q] at hs; cases hs
  have bl : ∀ t, (L ||| 1 <<< po i).testBit t = true ↔ L.testBit t = true ∨ t = po i := fun t => by
    rw [Nat.testBit_or, sh_bit, Bool.or_eq_true, decide_eq_true_eq]
  refine ⟨⟨fun t ht pt => ?_, fun l hl => ?_, fun j hj pj => ?_, or_lt (n := 9) h4 hR.1, or_lt (n := 9) h5 (sh_lt (hL.2.1 i hi))⟩, popc_or hn 9 (hL.2.1 i hi)⟩
  · rw [Nat.testBit_or, Bool.or_eq_true, h1 t ht pt, bl, cn_R hR, ← hL.2.2.2.2 i t hi ht hp pt]
    exact ⟨fun z => z.imp_right Eq.symm, fun z => z.imp_right Eq.symm⟩
  · rcases (bl l).mp hl with r | r
    · exact h2 l r
    · rw [r]; exact hL.2.2.1 i hi hp
  · rw [bl]
    rcases Nat.lt_or_eq_of_le (Nat.le_of_lt_succ hj) with r | r
    · exact Or.inl (h3 j r pj)
    · rw [r]; exact Or.inr rfl
theorem PcI_end {pts pcs seen L : Nat} {nr po : Nat → Nat} (hL : Lab pts nr po pcs) (h : PcI pts po pcs 9 seen L) : L = pcs := bits_eq fun t => by
  obtain ⟨h1, h2, h3, h4, h5⟩ := h
  refine ⟨h2 t, fun z => ?_⟩
  obtain ⟨p, p9, pp, pe⟩ := hL.2.2.2.1 t z
  rw [← pe]
  exact h3 p p9 pp
theorem l_Net_pieces {d b : Nat} {pre suf : mH} {pts edg : Nat} {nr : Nat → Nat} {Q : Option Value → mH → Prop} (hb : pre.length = b) {pcs : Nat} {po : Nat → Nat} (hpt : pts < 512) (hnr : ∀ p, p < 9 → nr p < 512) (hL : Lab pts nr po pcs) (hQ : Q (some (.int (nI (popc pcs 9)))) (nW b pre pts edg nr suf)) : ∀ (m i seen L : Nat), i + m = 9 → PcI pts po pcs i seen L → WP (Rn mprog (d + 4)) k_Net_pieces (some .int) Q 6 [.ref b, .int (nI (popc L 9)), .int (nI seen), .int (nI i)] [] (nW b pre pts edg nr suf) := by
  intro m
  induction m with
  | zero =>
    intro i seen L hi hI
    have e : i = 9 := by omega
    subst e
    have e2 := PcI_end hL hI
    subst e2
    refine wq_iload_n rfl rfl ?_
    refine wq_bipush (v := nI 9) rfl (by decide) ?_
    refine wq_ic_ge rfl (fun _ => ?_) (fun c => absurd c (by decide))
    refine wq_iload_n rfl rfl ?_
    refine wq_iret rfl trivial ?_
    exact hQ
  | succ m ih =>
    intro i seen L hi hI
    have i9 : i < 9 := by omega
    have hs5 := hI.2.2.2.1
    refine wq_iload_n rfl rfl ?_
    refine wq_bipush (v := nI 9) rfl (by decide) ?_
    refine wn_ic_ge rfl (by omega) (by omega) (fun c9 => absurd c9 (by omega)) (fun c9 => ?_)
    refine wq_aload_n rfl rfl ?_
    refine wq_iload_n rfl rfl ?_
    refine wq_virt (b := b) (a := [.int (nI i)]) (rest := []) rfl rfl rfl rfl rfl (nW_o0 hb) ?_
    refine r_Net_has hb i9 hpt (fun c14 => ?_) (fun c14 => ?_)
    · skip
      show WP _ _ _ _ 17 [.ref b, .int (nI (popc L 9)), .int (nI seen), .int (nI i)] [.int (nI 1)] (nW b pre pts edg nr suf)
      refine wq_if_eq rfl (fun c => absurd c (by decide)) (fun _ => ?_)
      refine wq_iload_n rfl rfl ?_
      refine wq_iload_n rfl rfl ?_
      refine wq_stat (a := [.int (nI seen), .int (nI i)]) (rest := []) rfl rfl rfl rfl rfl ?_
      refine r_Z_isIn (by omega) (by omega) (fun c22 => ?_) (fun c22 => ?_)
      · skip
        show WP _ _ _ _ 25 [.ref b, .int (nI (popc L 9)), .int (nI seen), .int (nI i)] [.int (nI 1)] (nW b pre pts edg nr suf)
        refine wq_if_ne rfl (fun _ => ?_) (fun c => absurd c (by decide))
        refine wn_inc (lv' := [.ref b, .int (nI (popc L 9)), .int (nI seen), .int (nI (i + 1))]) rfl rfl rfl ?_
        refine wq_goto rfl ?_
        exact ih (i + 1) _ _ (by omega) (PcI_skip i9 hI (Or.inr c22))
      · skip
        show WP _ _ _ _ 25 [.ref b, .int (nI (popc L 9)), .int (nI seen), .int (nI i)] [.int (nI 0)] (nW b pre pts edg nr suf)
        refine wq_if_ne rfl (fun c => absurd c (by decide)) (fun _ => ?_)
        refine wq_iload_n rfl rfl ?_
        refine wq_aload_n rfl rfl ?_
        refine wq_iload_n rfl rfl ?_
        refine wq_virt (b := b) (a := [.int (nI i)]) (rest := [.int (nI seen)]) rfl rfl rfl rfl rfl (nW_o0 hb) ?_
        refine r_Net_pieceOf hb i9 hnr (fun R hR => ?_) hpt c14
        show WP _ _ _ _ 34 [.ref b, .int (nI (popc L 9)), .int (nI seen), .int (nI i)] [.int (nI R), .int (nI seen)] (nW b pre pts edg nr suf)
        refine wn_ior rfl ?_
        refine wq_istore_n (lv' := [.ref b, .int (nI (popc L 9)), .int (nI (seen ||| R)), .int (nI i)]) rfl rfl rfl ?_
        refine wn_inc (lv' := [.ref b, .int (nI (popc L 9 + 1)), .int (nI (seen ||| R)), .int (nI i)]) rfl rfl rfl ?_
        refine wn_inc (lv' := [.ref b, .int (nI (popc L 9 + 1)), .int (nI (seen ||| R)), .int (nI (i + 1))]) rfl rfl rfl ?_
        refine wq_goto rfl ?_
        obtain ⟨q1, q2⟩ := PcI_new i9 hL hI hR c14 c22
        rw [← q2]
        exact ih (i + 1) _ _ (by omega) q1
    · skip
      show WP _ _ _ _ 17 [.ref b, .int (nI (popc L 9)), .int (nI seen), .int (nI i)] [.int (nI 0)] (nW b pre pts edg nr suf)
      refine wq_if_eq rfl (fun _ => ?_) (fun c => absurd c (by decide))
      refine wn_inc (lv' := [.ref b, .int (nI (popc L 9)), .int (nI seen), .int (nI (i + 1))]) rfl rfl rfl ?_
      refine wq_goto rfl ?_
      exact ih (i + 1) _ _ (by omega) (PcI_skip i9 hI (Or.inl c14))
theorem r_Net_pieces {d b : Nat} {pre suf : mH} {pts edg : Nat} {nr : Nat → Nat} {Q : Option Value → mH → Prop} (hb : pre.length = b) {pcs : Nat} {po : Nat → Nat} (hpt : pts < 512) (hnr : ∀ p, p < 9 → nr p < 512) (hL : Lab pts nr po pcs) (hQ : Q (some (.int (nI (popc pcs 9)))) (nW b pre pts edg nr suf)) : Rn mprog (d + 5) n_Net_pieces [.ref b] (nW b pre pts edg nr suf) Q := by
  refine Rn.in rfl rfl rfl ?_
  show WP _ _ _ _ 0 [.ref b, .long 0, .long 0, .long 0] [] (nW b pre pts edg nr suf)
  refine wq_iconst (v := nI 0) rfl (by decide) ?_
  refine wq_istore_n (lv' := [.ref b, .int (nI 0), .long 0, .long 0]) rfl rfl rfl ?_
  refine wq_iconst (v := nI 0) rfl (by decide) ?_
  refine wq_istore_n (lv' := [.ref b, .int (nI 0), .int (nI 0), .long 0]) rfl rfl rfl ?_
  refine wq_iconst (v := nI 0) rfl (by decide) ?_
  refine wq_istore_n (lv' := [.ref b, .int (nI 0), .int (nI 0), .int (nI 0)]) rfl rfl rfl ?_
  have z : ∀ t, ¬ (0 : Nat).testBit t = true := fun t => by rw [Nat.zero_testBit]; decide
  exact l_Net_pieces hb hpt hnr hL hQ 9 0 0 0 rfl ⟨fun t _ _ => ⟨fun y => absurd y (z _), fun y => absurd y (z _)⟩, fun l y => absurd y (z _), fun j hj => absurd hj (Nat.not_lt_zero j), by decide, by decide⟩
theorem r_Net_loops {d b : Nat} {pre suf : mH} {pts edg : Nat} {nr : Nat → Nat} {Q : Option Value → mH → Prop} (hb : pre.length = b) {pcs : Nat} {po : Nat → Nat} (hpt : pts < 512) (hnr : ∀ p, p < 9 → nr p < 512) (hL : Lab pts nr po pcs) (hQ : Q (some (.int (nI edg - nI (popc pts 9) + nI (popc pcs 9)))) (nW b pre pts edg nr suf)) : Rn mprog (d + 6) n_Net_loops [.ref b] (nW b pre pts edg nr suf) Q := by
  refine Rn.in rfl rfl rfl ?_
  show WP _ _ _ _ 0 [.ref b] [] (nW b pre pts edg nr suf)
  refine wq_aload_n rfl rfl ?_
  refine wq_getfield (v := .int (nI edg)) rfl (nW_o0 hb) rfl ?_
  refine wq_aload_n rfl rfl ?_
  refine wq_getfield (v := .int (nI pts)) rfl (nW_o0 hb) rfl ?_
  refine wq_stat (a := [.int (nI pts)]) (rest := [.int (nI edg)]) rfl rfl rfl rfl rfl ?_
  refine r_bitCount (by omega) ?_
  show WP _ _ _ _ 11 [.ref b] [.int (nI (popc pts 9)), .int (nI edg)] (nW b pre pts edg nr suf)
  refine wq_isub (v := (nI edg) - (nI (popc pts 9))) rfl rfl ?_
  refine wq_aload_n rfl rfl ?_
  refine wq_virt (b := b) (a := []) (rest := [.int ((nI edg) - (nI (popc pts 9)))]) rfl rfl rfl rfl rfl (nW_o0 hb) ?_
  refine r_Net_pieces hb hpt hnr hL ?_
  show WP _ _ _ _ 16 [.ref b] [.int (nI (popc pcs 9)), .int ((nI edg) - (nI (popc pts 9)))] (nW b pre pts edg nr suf)
  refine wq_iadd (v := ((nI edg) - (nI (popc pts 9))) + (nI (popc pcs 9))) rfl rfl ?_
  refine wq_iret rfl trivial ?_
  exact hQ
