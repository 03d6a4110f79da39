/-! bars as lists; open bars; play -/
/-- a bar comes into a row of bars (kept from its end): behind all that don't come behind it -/
def insR (x : Nat × Nat) : List (Nat × Nat) → List (Nat × Nat)
  | [] => [x]
  | y :: l => if gtP y.1 y.2 x.1 x.2 = true then y :: insR x l else x :: y :: l
theorem insR_len (x : Nat × Nat) : ∀ l, (insR x l).length = l.length + 1
  | [] => rfl
  | y :: l => by
    unfold insR
    split
    · rw [List.length_cons, insR_len x l, List.length_cons]
    · rfl
/-- two arrays hold the list, its last one first -/
def BL (nn : Nat) (f g : Nat → Nat) (l : List (Nat × Nat)) : Prop := l.length = nn ∧ ∀ i, i < nn → l[nn - 1 - i]? = some (f i, g i)
theorem BL_nil (f g : Nat → Nat) : BL 0 f g [] := ⟨rfl, fun i h => absurd h (Nat.not_lt_zero i)⟩
theorem inA_lo {f : Nat → Nat} {p nn x j : Nat} (h : j < p) : inA f p nn x j = f j := by
  unfold inA
  rw [uN_n (by omega), shA_lo (by omega)]
theorem inA_at {f : Nat → Nat} {p nn x : Nat} : inA f p nn x p = x := uN_s
theorem inA_hi {f : Nat → Nat} {p nn x j : Nat} (h : p < j) (h2 : j ≤ nn) : inA f p nn x j = f (j - 1) := by
  unfold inA
  rw [uN_n (by omega)]
  unfold shA
  rw [if_pos ⟨h, h2⟩]
theorem insR_at {x : Nat × Nat} : ∀ (l : List (Nat × Nat)) (q : Nat), q ≤ l.length → (∀ i y, i < q → l[i]? = some y → gtP y.1 y.2 x.1 x.2 = true) → (∀ y, l[q]? = some y → gtP y.1 y.2 x.1 x.2 = false) → insR x l = l.take q ++ x :: l.drop q
  | [], q, hq, _, _ => by
    have e : q = 0 := by simpa using hq
    subst e
    rfl
  | y :: l, 0, _, _, h2 => by
    unfold insR
    rw [if_neg (by rw [h2 y rfl]; decide)]
    rfl
  | y :: l, q + 1, hq, h1, h2 => by
    unfold insR
    rw [if_pos (h1 0 y (Nat.succ_pos q) rfl)]
    have ih := insR_at (x := x) l q (by simpa using hq) (fun i z hi hz => h1 (i + 1) z (by omega) (by simpa using hz)) (fun z hz => h2 z (by simpa using hz))
    rw [ih]
    rfl
theorem BL_ins {nn p x y : Nat} {f g : Nat → Nat} {l : List (Nat × Nat)} (h : BL nn f g l) (hp : p ≤ nn) (h1 : ∀ i, p ≤ i → i < nn → gtP (f i) (g i) x y = true) (h2 : p = 0 ∨ gtP (f (p - 1)) (g (p - 1)) x y = false) : BL (nn + 1) (inA f p nn x) (inA g p nn y) (insR (x, y) l) := by
  obtain ⟨hl, hg⟩ := h
  have e : insR (x, y) l = l.take (nn - p) ++ (x, y) :: l.drop (nn - p) := by
    refine insR_at l (nn - p) (by omega) ?_ ?_
    · intro i z hi hz
      have e1 := hg (nn - 1 - i) (by omega)
      have e2 : nn - 1 - (nn - 1 - i) = i := by omega
      rw [e2, hz] at e1
      cases e1
      exact h1 _ (by omega) (by omega)
    · intro z hz
      rcases h2 with h2 | h2
      · have : l[nn - p]? = none := List.getElem?_eq_none (by omega)
        rw [this] at hz
        cases hz
      · by_cases hp0 : p = 0
        · have : l[nn - p]? = none := List.getElem?_eq_none (by omega)
          rw [this] at hz
          cases hz
        · have e1 := hg (p - 1) (by omega)
          have e2 : nn - 1 - (p - 1) = nn - p := by omega
          rw [e2, hz] at e1
          cases e1
          exact h2
  refine ⟨by rw [insR_len, hl], fun i hi => ?_⟩
  rw [e]
  have hlt : (l.take (nn - p)).length = nn - p := by rw [List.length_take]; omega
  rcases Nat.lt_trichotomy i p with hc | hc | hc
  · rw [inA_lo hc, inA_lo hc, List.getElem?_append_right (by omega), hlt]
    have e2 : nn + 1 - 1 - i - (nn - p) = (p - i - 1) + 1 := by omega
    rw [e2, List.getElem?_cons_succ, List.getElem?_drop]
    have e3 : nn - p + (p - i - 1) = nn - 1 - i := by omega
    rw [e3]
    exact hg i (by omega)
  · subst hc
    rw [inA_at, inA_at, List.getElem?_append_right (by omega), hlt]
    have e2 : nn + 1 - 1 - i - (nn - i) = 0 := by omega
    rw [e2]
    rfl
  · rw [inA_hi hc (by omega), inA_hi hc (by omega), List.getElem?_append_left (by omega), List.getElem?_take, if_pos (by omega)]
    have e3 : nn + 1 - 1 - i = nn - 1 - (i - 1) := by omega
    rw [e3]
    exact hg (i - 1) (by omega)
/-- a point's piece -/
noncomputable def pOf (nr : Nat → Nat) (p : Nat) : Nat := @dite Nat (∃ R, IsR nr p R) (Classical.propDecidable _) (fun h => Classical.choose h) (fun _ => 0)
theorem IsR_uniq {nr : Nat → Nat} {p R S : Nat} (h1 : IsR nr p R) (h2 : IsR nr p S) : R = S := bits_eq fun t => ⟨fun q => h1.2.2.2 S h2.2.1 h2.2.2.1 t q, fun q => h2.2.2.2 R h1.2.1 h1.2.2.1 t q⟩
theorem IsR_pOf {nr : Nat → Nat} {p R : Nat} (h : IsR nr p R) : R = pOf nr p := by
  unfold pOf
  have hx : ∃ R, IsR nr p R := ⟨R, h⟩
  rw [dif_pos hx]
  exact IsR_uniq h (Classical.choose_spec hx)
/-- the bars that would end if all pieces of what is left went -/
noncomputable def opL (nr rt : Nat → Nat) (sc : Nat → Nat → Nat) : Nat → Nat → Nat → List (Nat × Nat)
  | 0, _, _ => []
  | m + 1, i, left => if left.testBit i = true then ((if 0 < mxS (nd left (pOf nr i)) (sc i) 9 then mxS (nd left (pOf nr i)) (sc i) 9 else rt i), 99) :: opL nr rt sc m (i + 1) (nd left (pOf nr i)) else opL nr rt sc m (i + 1) left
theorem inA_b {f : Nat → Nat} {p nn x : Nat} (hf : ∀ i, i < 40 → f i < 2 ^ 31) (hx : x < 2 ^ 31) (hp : p ≤ nn) (hn : nn < 40) : ∀ j, j < 40 → inA f p nn x j < 2 ^ 31 := by
  intro j hj
  unfold inA uN' shA
  split
  · exact hx
  · split
    · exact hf _ (by omega)
    · exact hf j hj
theorem l_Sto_open {d b : Nat} {pre suf : mH} {pts : Nat} {edg : Nat} {nr : Nat → Nat} {rt : Nat → Nat} {sc : Nat → Nat → Nat} {wf : Nat → Nat} {ws : Nat → Nat}  {Q : Option Value → mH → Prop} (hb : pre.length = b) (hpt : pts < 512) (hnr : ∀ p, p < 9 → nr p < 512) (hsc : ∀ p q, p < 9 → q < 9 → sc p q < 1000) (hrt : ∀ p, p < 9 → rt p < 1000) : ∀ (m i left : Nat) (rb : List (Nat × Nat)) (bsz bop : Nat) (bbg ben : Nat → Nat), i + m = 9 → left < 512 → (∀ t, left.testBit t = true → pts.testBit t = true) → BL bsz bbg ben rb → (∀ i, i < 40 → bbg i < 2 ^ 31 ∧ ben i < 2 ^ 31) → bsz + (opL nr rt sc m i left).length ≤ 40 → (∀ bsz2 bop2 bbg2 ben2, BL bsz2 bbg2 ben2 ((opL nr rt sc m i left).foldl (fun l x => insR x l) rb) → bop2 = bop + (opL nr rt sc m i left).length → (∀ i, i < 40 → bbg2 i < 2 ^ 31 ∧ ben2 i < 2 ^ 31) → Q none (sW b pre pts edg nr rt sc wf ws bsz2 bop2 bbg2 ben2 suf)) → WP (Rn mprog (d + 4)) k_Sto_addOpenBars none Q 10 [.ref b, .int (nI left), .int (nI i)] [] (sW b pre pts edg nr rt sc wf ws bsz bop bbg ben suf) := by
  intro m
  induction m with
  | zero =>
    intro i left rb bsz bop bbg ben hi hl9 hl hBL hbv hcap hQ
    have e : i = 9 := by omega
    subst e
    refine wq_iload_n rfl rfl ?_
    refine wq_bipush (v := nI 9) rfl (by decide) ?_
    refine wq_ic_ge rfl (fun _ => ?_) (fun c => absurd c (by decide))
    refine wq_vret rfl rfl ?_
    exact hQ bsz bop bbg ben hBL rfl hbv
  | succ m ih =>
    intro i left rb bsz bop bbg ben hi hl9 hl hBL hbv hcap hQ
    refine wq_iload_n rfl rfl ?_
    refine wq_bipush (v := nI 9) rfl (by decide) ?_
    refine wn_ic_ge rfl (by omega) (by omega) (fun c13 => absurd c13 (by omega)) (fun c13 => ?_)
    refine wq_iload_n rfl rfl ?_
    refine wq_iload_n rfl rfl ?_
    refine wq_stat (a := [.int (nI left), .int (nI i)]) (rest := []) rfl rfl rfl rfl rfl ?_
    refine r_Z_isIn (by omega) (by omega) (fun c18 => ?_) (fun c18 => ?_)
    · skip
      show WP _ _ _ _ 21 [.ref b, .int (nI left), .int (nI i)] [.int (nI 1)] (sW b pre pts edg nr rt sc wf ws bsz bop bbg ben suf)
      refine wq_if_eq rfl (fun c => absurd c (by decide)) (fun _ => ?_)
      have hcap1 : bsz < 40 := by
        unfold opL at hcap
        rw [if_pos c18, List.length_cons] at hcap
        omega
      refine wq_iload_n rfl rfl ?_
      refine wq_aload_n rfl rfl ?_
      refine wq_getfield (v := .ref (b + 1)) rfl (sW_o0 hb) rfl ?_
      refine wq_iload_n rfl rfl ?_
      refine wq_virt (b := b + 1) (a := [.int (nI i)]) (rest := [.int (nI left)]) rfl rfl rfl rfl rfl (sW_o1 hb) ?_
      rw [sW_n]
      refine r_Net_pieceOf (sW_ln hb) (by omega) hnr ?_ hpt (hl _ c18)
      intro R hR
      have hRl := hR.1
      have hRp := IsR_pOf hR
      have hnl := nd_lt (m := R) (n := 9) hl9
      have hm := mxS_le (oth := nd left R) (m := 999) (r := sc i) (fun q hq => by have := hsc i q (by omega) hq; omega) 9 (Nat.le_refl 9)
      have hri := hrt i (by omega)
      have hbeg : (if 0 < mxS (nd left R) (sc i) 9 then mxS (nd left R) (sc i) 9 else rt i) < 1000 := by split <;> omega
      rw [← sW_n]
      show WP _ _ _ _ 33 [.ref b, .int (nI left), .int (nI i)] [.int (nI R), .int (nI left)] (sW b pre pts edg nr rt sc wf ws bsz bop bbg ben suf)
      refine wq_iconst (v := (-1)) rfl (by decide) ?_
      refine wq_ixor (v := (nI R ^^^ (-1))) rfl rfl ?_
      refine wn_andn rfl ?_
      refine wq_istore_n (lv' := [.ref b, .int (nI (nd left R)), .int (nI i)]) rfl rfl rfl ?_
      refine wq_aload_n rfl rfl ?_
      refine wq_getfield (v := .ref (b + 8)) rfl (sW_o0 hb) rfl ?_
      refine wq_aload_n rfl rfl ?_
      refine wq_getfield (v := .ref (b + 3)) rfl (sW_o0 hb) rfl ?_
      refine wq_iload_n rfl rfl ?_
      refine wq_iload_n rfl rfl ?_
      refine wq_virt (b := b + 3) (a := [.int (nI i), .int (nI (nd left R))]) (rest := [.ref (b + 8)]) rfl rfl rfl rfl rfl (sW_o3 hb) ?_
      rw [sW_k]
      refine r_Kin_bog (sW_lk hb) (by omega) (by omega) (fun q hq => hsc _ q (by omega) hq) ?_
      rw [← sW_k]
      show WP _ _ _ _ 50 [.ref b, .int (nI (nd left R)), .int (nI i)] [.int (nI (if 0 < mxS (nd left R) (sc i) 9 then mxS (nd left R) (sc i) 9 else rt i)), .ref (b + 8)] (sW b pre pts edg nr rt sc wf ws bsz bop bbg ben suf)
      refine wq_bipush (v := nI 99) rfl (by decide) ?_
      refine wq_virt (b := b + 8) (a := [.int (nI (if 0 < mxS (nd left R) (sc i) 9 then mxS (nd left R) (sc i) 9 else rt i)), .int (nI 99)]) (rest := []) rfl rfl rfl rfl rfl (sW_o8 hb) ?_
      rw [sW_b]
      refine r_Bars_add (sW_lb hb) hcap1 hbv (by have := hbeg; omega) (by omega) ?_
      intro p hp1 hp2 hp3
      rw [← sW_b]
      show WP _ _ _ _ 55 [.ref b, .int (nI (nd left R)), .int (nI i)] [] (sW b pre pts edg nr rt sc wf ws (bsz + 1) (if 99 = 99 then bop + 1 else bop) (inA bbg p bsz (if 0 < mxS (nd left R) (sc i) 9 then mxS (nd left R) (sc i) 9 else rt i)) (inA ben p bsz 99) suf)
      refine wn_inc (lv' := [.ref b, .int (nI (nd left R)), .int (nI (i + 1))]) rfl rfl rfl ?_
      refine wq_goto rfl ?_
      rw [if_pos rfl]
      refine ih (i + 1) (nd left R) (insR (if 0 < mxS (nd left R) (sc i) 9 then mxS (nd left R) (sc i) 9 else rt i, 99) rb) (bsz + 1) (bop + 1) _ _ (by omega) hnl (fun t q => ?_) (BL_ins hBL hp1 hp2 hp3) ?_ ?_ ?_
      · rw [nd_bit, Bool.and_eq_true] at q
        exact hl t q.1
      · exact fun j hj => ⟨inA_b (fun t ht => (hbv t ht).1) (by omega) hp1 hcap1 j hj, inA_b (fun t ht => (hbv t ht).2) (by decide) hp1 hcap1 j hj⟩
      · rw [hRp]
        unfold opL at hcap
        rw [if_pos c18, List.length_cons] at hcap
        omega
      · intro bsz2 bop2 bbg2 ben2 g1 g2 g3
        refine hQ bsz2 bop2 bbg2 ben2 ?_ ?_ g3
        · unfold opL
          rw [if_pos c18, List.foldl_cons, ← hRp]
          exact g1
        · unfold opL
          rw [if_pos c18, List.length_cons, ← hRp]
          omega
    · skip
      show WP _ _ _ _ 21 [.ref b, .int (nI left), .int (nI i)] [.int (nI 0)] (sW b pre pts edg nr rt sc wf ws bsz bop bbg ben suf)
      refine wq_if_eq rfl (fun _ => ?_) (fun c => absurd c (by decide))
      refine wn_inc (lv' := [.ref b, .int (nI left), .int (nI (i + 1))]) rfl rfl rfl ?_
      refine wq_goto rfl ?_
      refine ih (i + 1) left rb bsz bop bbg ben (by omega) hl9 hl hBL hbv ?_ ?_
      · unfold opL at hcap
        rw [if_neg (by rw [c18]; decide)] at hcap
        exact hcap
      · intro bsz2 bop2 bbg2 ben2 g1 g2 g3
        refine hQ bsz2 bop2 bbg2 ben2 ?_ ?_ g3
        · unfold opL
          rw [if_neg (by rw [c18]; decide)]
          exact g1
        · unfold opL
          rw [if_neg (by rw [c18]; decide)]
          exact g2
