/-! the reference: lowestOf, runsAll -/
theorem l_S_lowest {d b : Nat} {pre : mH} {F : Nat → Nat} {G : Nat → Nat → Nat} {th pcs brs : Nat} {be po ro bg en : Nat → Nat} {kf : Nat → Nat → Nat} {Q : Option Value → mH → Prop} (hb : pre.length = b) {its p0 : Nat} (hth : th < 512) (hpo : ∀ p, p < 9 → po p < 9) (h0 : p0 < 9) (h1 : th.testBit p0 = true) (h2 : po p0 = its) (hQ : ∀ p, p < 9 → th.testBit p = true → po p = its → (∀ j, j < p → ¬ (th.testBit j = true ∧ po j = its)) → Q (some (.int (nI p))) (mS b pre F G th pcs brs be po ro kf bg en)) : ∀ (m i : Nat), i + m = p0 → (∀ j, j < i → ¬ (th.testBit j = true ∧ po j = its)) → WP (Rn mprog (d + 1)) k_M_lowestOf (some .int) Q 2 [.ref b, .int (nI its), .int (nI i)] [] (mS b pre F G th pcs brs be po ro kf bg en) := by
  have hi9 : its < 9 := by rw [← h2]; exact hpo p0 h0
  intro m
  induction m with
  | zero =>
    intro i hi hj
    have e : i = p0 := by omega
    subst e
    have hpi := hpo i h0
    refine wq_aload_n rfl rfl ?_
    refine wq_getfield (v := .int (nI th)) rfl (mS_o hb) rfl ?_
    refine wq_iload_n rfl rfl ?_
    refine wq_stat (a := [.int (nI th), .int (nI i)]) (rest := []) rfl rfl rfl rfl rfl ?_
    refine r_M_has (by omega) (by omega) (fun c7 => ?_) (fun c7 => absurd c7 (by rw [h1]; decide))
    show WP _ _ _ _ 10 [.ref b, .int (nI its), .int (nI i)] [.int (nI 1)] (mS b pre F G th pcs brs be po ro kf bg en)
    refine wq_if_eq rfl (fun c => absurd c (by decide)) (fun _ => ?_)
    refine wq_aload_n rfl rfl ?_
    refine wq_getfield (v := .ref (b + 6)) rfl (mS_o hb) rfl ?_
    refine wq_iload_n rfl rfl ?_
    refine wn_iaload (g := po) rfl (mS_a10 hb) (by omega) (by decide) ?_
    refine wq_iload_n rfl rfl ?_
    refine wn_ic_eq rfl (by omega) (by omega) (fun c20 => ?_) (fun c20 => absurd c20 (by omega))
    refine wq_iload_n rfl rfl ?_
    refine wq_iret rfl trivial ?_
    exact hQ i h0 h1 h2 hj
  | succ m ih =>
    intro i hi hj
    have hpi := hpo i (by omega)
    refine wq_aload_n rfl rfl ?_
    refine wq_getfield (v := .int (nI th)) rfl (mS_o hb) rfl ?_
    refine wq_iload_n rfl rfl ?_
    refine wq_stat (a := [.int (nI th), .int (nI i)]) (rest := []) rfl rfl rfl rfl rfl ?_
    refine r_M_has (by omega) (by omega) (fun c7 => ?_) (fun c7 => ?_)
    · skip
      show WP _ _ _ _ 10 [.ref b, .int (nI its), .int (nI i)] [.int (nI 1)] (mS b pre F G th pcs brs be po ro kf bg en)
      refine wq_if_eq rfl (fun c => absurd c (by decide)) (fun _ => ?_)
      refine wq_aload_n rfl rfl ?_
      refine wq_getfield (v := .ref (b + 6)) rfl (mS_o hb) rfl ?_
      refine wq_iload_n rfl rfl ?_
      refine wn_iaload (g := po) rfl (mS_a10 hb) (by omega) (by decide) ?_
      refine wq_iload_n rfl rfl ?_
      refine wn_ic_eq rfl (by omega) (by omega) (fun c20 => ?_) (fun c20 => ?_)
      · skip
        refine wq_iload_n rfl rfl ?_
        refine wq_iret rfl trivial ?_
        exact hQ i (by omega) c7 c20 hj
      · skip
        refine wn_inc (lv' := [.ref b, .int (nI its), .int (nI (i + 1))]) rfl rfl rfl ?_
        refine wq_goto rfl ?_
        refine ih (i + 1) (by omega) (fun j q => ?_)
        rcases Nat.lt_or_eq_of_le (Nat.le_of_lt_succ q) with r | r
        · exact hj j r
        · rw [r]
          exact fun y => absurd y.2 c20
    · skip
      show WP _ _ _ _ 10 [.ref b, .int (nI its), .int (nI i)] [.int (nI 0)] (mS b pre F G th pcs brs be po ro kf bg en)
      refine wq_if_eq rfl (fun _ => ?_) (fun c => absurd c (by decide))
      refine wn_inc (lv' := [.ref b, .int (nI its), .int (nI (i + 1))]) rfl rfl rfl ?_
      refine wq_goto rfl ?_
      refine ih (i + 1) (by omega) (fun j q => ?_)
      rcases Nat.lt_or_eq_of_le (Nat.le_of_lt_succ q) with r | r
      · exact hj j r
      · rw [r]
        exact fun y => absurd y.1 (by rw [c7]; decide)
theorem r_S_lowest {d b : Nat} {pre : mH} {F : Nat → Nat} {G : Nat → Nat → Nat} {th pcs brs : Nat} {be po ro bg en : Nat → Nat} {kf : Nat → Nat → Nat} {Q : Option Value → mH → Prop} (hb : pre.length = b) {its p0 : Nat} (hth : th < 512) (hpo : ∀ p, p < 9 → po p < 9) (h0 : p0 < 9) (h1 : th.testBit p0 = true) (h2 : po p0 = its) (hQ : ∀ p, p < 9 → th.testBit p = true → po p = its → (∀ j, j < p → ¬ (th.testBit j = true ∧ po j = its)) → Q (some (.int (nI p))) (mS b pre F G th pcs brs be po ro kf bg en)) : Rn mprog (d + 2) n_M_lowestOf [.ref b, .int (nI its)] (mS b pre F G th pcs brs be po ro kf bg en) Q := by
  refine Rn.in rfl rfl rfl ?_
  show WP _ _ _ _ 0 [.ref b, .int (nI its), .long 0] [] (mS b pre F G th pcs brs be po ro kf bg en)
  refine wq_iconst (v := nI 0) rfl (by decide) ?_
  refine wq_istore_n (lv' := [.ref b, .int (nI its), .int (nI 0)]) rfl rfl rfl ?_
  exact l_S_lowest hb hth hpo h0 h1 h2 hQ p0 0 (by omega) (fun j q => absurd q (Nat.not_lt_zero j))
/-- what is left of the points and of the pieces -/
def OpI (pts pcs : Nat) (po : Nat → Nat) (i left L : Nat) : Prop :=
  (∀ t, t < 9 → (left.testBit t = true ↔ pts.testBit t = true ∧ L.testBit (po t) = true)) ∧ (∀ l, L.testBit l = true → pcs.testBit l = true) ∧ (∀ j, j < i → pts.testBit j = true → L.testBit (po j) = false) ∧ left < 512 ∧ L < 512
theorem OpI_skip {pts pcs i left L : Nat} {po : Nat → Nat} (hi : i < 9) (h : OpI pts pcs po i left L) (hn : ¬ left.testBit i = true) : OpI pts pcs po (i + 1) left L := by
  obtain ⟨h1, h2, h3, h4, h5⟩ := h
  refine ⟨h1, h2, fun j hj hp => ?_, h4, h5⟩
  rcases Nat.lt_or_eq_of_le (Nat.le_of_lt_succ hj) with r | r
  · exact h3 j r hp
  · subst r
    cases q : L.testBit (po j)
    · rfl
    · exact absurd ((h1 j hi).mpr ⟨hp, q⟩) hn
theorem OpI_go {pts pcs i left L : Nat} {nr po : Nat → Nat} (hi : i < 9) (g : Gr nr) (hL : Lab pts nr po pcs) (h : OpI pts pcs po i left L) (hy : left.testBit i = true) : OpI pts pcs po (i + 1) (nd left (pOf nr i)) (nd L (1 <<< po i)) := by
  obtain ⟨h1, h2, h3, h4, h5⟩ := h
  have bl : ∀ t, (nd L (1 <<< po i)).testBit t = true ↔ L.testBit t = true ∧ t ≠ po i := fun t => by
    rw [nd_bit, sh_bit, Bool.and_eq_true]
    by_cases e : t = po i
    · simp [e]
    · simp [e]
  have pi := ((h1 i hi).mp hy).1
  refine ⟨fun t ht => ?_, fun l hl => h2 l ((bl l).mp hl).1, fun j hj hp => ?_, nd_lt (n := 9) h4, nd_lt (n := 9) h5⟩
  · rw [bl, nd_bit, Bool.and_eq_true, h1 t ht]
    constructor
    · rintro ⟨⟨a, c⟩, e⟩
      refine ⟨a, c, fun z => ?_⟩
      have := (pOf_bit g hi).mpr ((hL.2.2.2.2 i t hi ht pi a).mp z.symm)
      rw [this] at e
      cases e
    · rintro ⟨a, c, e⟩
      refine ⟨⟨a, c⟩, ?_⟩
      cases q : (pOf nr i).testBit t
      · rfl
      · exact absurd ((hL.2.2.2.2 i t hi ht pi a).mpr ((pOf_bit g hi).mp q)).symm e
  · cases q : (nd L (1 <<< po i)).testBit (po j)
    · rfl
    · obtain ⟨q1, q2⟩ := (bl _).mp q
      rcases Nat.lt_or_eq_of_le (Nat.le_of_lt_succ hj) with r | r
      · rw [h3 j r hp] at q1; cases q1
      · exact absurd (by rw [r]) q2
theorem op_mx {pts pcs i left L : Nat} {nr po rt ro : Nat → Nat} {sc kf : Nat → Nat → Nat} (hi : i < 9) (g : Gr nr) (hL : Lab pts nr po pcs) (hK : SK pts nr rt sc po ro kf) (h : OpI pts pcs po i left L) (hy : left.testBit i = true) : (if mxK L (kf (po i)) (po i) 9 = 0 then ro (po i) else mxK L (kf (po i)) (po i) 9) = bG (mxS (nd left (pOf nr i)) (sc i) 9) (rt i) := by
  obtain ⟨h1, h2, h3, h4, h5⟩ := h
  have pi := ((h1 i hi).mp hy).1
  have e : mxK L (kf (po i)) (po i) 9 = mxS (nd left (pOf nr i)) (sc i) 9 := by
    refine mx_eq hL.2.1 (fun q hq hb => ?_) (fun l hl hne => ?_)
    · rw [nd_bit, Bool.and_eq_true] at hb
      obtain ⟨a, c⟩ := hb
      obtain ⟨a1, a2⟩ := (h1 q hq).mp a
      have nc : ¬ cn nr i q := fun z => by
        rw [(pOf_bit g hi).mpr z] at c
        cases c
      exact ⟨a2, fun z => nc ((hL.2.2.2.2 i q hi hq pi a1).mp z.symm), hK.2 i q hi hq pi a1 nc⟩
    · obtain ⟨q, q1, q2, q3⟩ := hL.2.2.2.1 l (h2 l hl)
      refine ⟨q, q1, ?_, q3⟩
      rw [nd_bit, Bool.and_eq_true]
      refine ⟨(h1 q q1).mpr ⟨q2, by rw [q3]; exact hl⟩, ?_⟩
      cases z : (pOf nr i).testBit q
      · rfl
      · exact absurd ((hL.2.2.2.2 i q hi q1 pi q2).mpr ((pOf_bit g hi).mp z)) (by rw [q3]; exact Ne.symm hne)
  rw [e, hK.1 i hi pi]
  unfold bG
  by_cases z : mxS (nd left (pOf nr i)) (sc i) 9 = 0
  · rw [if_pos z, if_neg (by omega)]
  · rw [if_neg z, if_pos (by omega)]
theorem l_S_open {d b : Nat} {pre : mH} {F : Nat → Nat} {G : Nat → Nat → Nat} {th : Nat} {be po ro : Nat → Nat} {kf : Nat → Nat → Nat} {Q : Option Value → mH → Prop} (hb : pre.length = b) {pts pcs0 : Nat} {nr rt : Nat → Nat} {sc : Nat → Nat → Nat} (g : Gr nr) (hth : th = pts) (hpt : pts < 512) (hL : Lab pts nr po pcs0) (hK : SK pts nr rt sc po ro kf) (hro : ∀ p, p < 9 → ro p < 1000) (hkf : ∀ p q, p < 9 → q < 9 → kf p q < 1000) {v2 v3 v4 : Value} {bs0 : List (Nat × Nat)} (hk : ∀ L brs bg en, bs0.length = brs → (∀ i, i < brs → bs0[i]? = some (bg i, en i)) → WP (Rn mprog (d + 2)) k_M_runsAll (some .boolean) Q 82 [.ref b, .int (nI 9), v2, v3, v4] [] (mS b pre F G th L brs be po ro kf bg en)) : ∀ (m i left L brs : Nat) (bg en : Nat → Nat) (bs : List (Nat × Nat)), i + m = 9 → OpI pts pcs0 po i left L → bs.length = brs → (∀ i, i < brs → bs[i]? = some (bg i, en i)) → bs ++ opL nr rt sc m i left = bs0 → brs + (opL nr rt sc m i left).length ≤ 40 → WP (Rn mprog (d + 2)) k_M_runsAll (some .boolean) Q 17 [.ref b, .int (nI i), v2, v3, v4] [] (mS b pre F G th L brs be po ro kf bg en) := by
  intro m
  induction m with
  | zero =>
    intro i left L brs bg en bs hi hO hl hent heq _
    have e : i = 9 := by omega
    subst e
    unfold opL at heq
    rw [List.append_nil] at heq
    subst heq
    refine wq_iload_n rfl rfl ?_
    refine wq_bipush (v := nI 9) rfl (by decide) ?_
    refine wq_ic_ge rfl (fun _ => ?_) (fun c => absurd c (by decide))
    exact hk L brs bg en hl hent
  | succ m ih =>
    intro i left L brs bg en bs hi hO hl hent heq hcap
    have i9 : i < 9 := by omega
    have hbi := hO.1 i i9
    have hL5 := hO.2.2.2.2
    have hpi := hL.2.1 i i9
    unfold opL at heq hcap
    refine wq_iload_n rfl rfl ?_
    refine wq_bipush (v := nI 9) rfl (by decide) ?_
    refine wn_ic_ge rfl (by omega) (by omega) (fun c20 => absurd c20 (by omega)) (fun c20 => ?_)
    refine wq_aload_n rfl rfl ?_
    refine wq_getfield (v := .int (nI th)) rfl (mS_o hb) rfl ?_
    refine wq_iload_n rfl rfl ?_
    refine wq_stat (a := [.int (nI th), .int (nI i)]) (rest := []) rfl rfl rfl rfl rfl ?_
    refine r_M_has (by omega) (by omega) (fun c28 => ?_) (fun c28 => ?_)
    · skip
      show WP _ _ _ _ 31 [.ref b, .int (nI i), v2, v3, v4] [.int (nI 1)] (mS b pre F G th L brs be po ro kf bg en)
      refine wq_if_eq rfl (fun c => absurd c (by decide)) (fun _ => ?_)
      refine wq_aload_n rfl rfl ?_
      refine wq_getfield (v := .int (nI L)) rfl (mS_o hb) rfl ?_
      refine wq_aload_n rfl rfl ?_
      refine wq_getfield (v := .ref (b + 6)) rfl (mS_o hb) rfl ?_
      refine wq_iload_n rfl rfl ?_
      refine wn_iaload (g := po) rfl (mS_a10 hb) (by omega) (by decide) ?_
      refine wq_stat (a := [.int (nI L), .int (nI (po i))]) (rest := []) rfl rfl rfl rfl rfl ?_
      refine r_M_has (by omega) (by omega) (fun c44 => ?_) (fun c44 => ?_)
      · skip
        show WP _ _ _ _ 47 [.ref b, .int (nI i), v2, v3, v4] [.int (nI 1)] (mS b pre F G th L brs be po ro kf bg en)
        refine wq_if_eq rfl (fun c => absurd c (by decide)) (fun _ => ?_)
        refine wq_aload_n rfl rfl ?_
        refine wq_aload_n rfl rfl ?_
        refine wq_getfield (v := .ref (b + 6)) rfl (mS_o hb) rfl ?_
        refine wq_iload_n rfl rfl ?_
        refine wn_iaload (g := po) rfl (mS_a10 hb) (by omega) (by decide) ?_
        refine wq_virt (b := b) (a := [.int (nI (po i))]) (rest := []) rfl rfl rfl rfl rfl (mS_o hb) ?_
        have hly : left.testBit i = true := hbi.mpr ⟨hth ▸ c28, c44⟩
        refine r_S_lowest hb (by omega) hL.2.1 i9 c28 rfl (fun p z1 z2 z3 z4 => ?_)
        have hpe : i = p := by
          rcases Nat.lt_trichotomy p i with r | r | r
          · have := hO.2.2.1 p r (hth ▸ z2)
            rw [z3, c44] at this
            cases this
          · exact r.symm
          · exact absurd ⟨c28, rfl⟩ (z4 i r)
        subst hpe
        show WP _ _ _ _ 60 [.ref b, .int (nI i), v2, v3, v4] [.int (nI i)] (mS b pre F G th L brs be po ro kf bg en)
        refine wq_iload_n rfl rfl ?_
        refine wn_ic_ne rfl (by omega) (by omega) (fun c61 => absurd c61 (fun h => h rfl)) (fun c61 => ?_)
        refine wq_aload_n rfl rfl ?_
        refine wq_aload_n rfl rfl ?_
        refine wq_getfield (v := .ref (b + 6)) rfl (mS_o hb) rfl ?_
        refine wq_iload_n rfl rfl ?_
        refine wn_iaload (g := po) rfl (mS_a10 hb) (by omega) (by decide) ?_
        refine wq_bipush (v := nI 99) rfl (by decide) ?_
        refine wq_virt (b := b) (a := [.int (nI (po i)), .int (nI 99)]) (rest := []) rfl rfl rfl rfl rfl (mS_o hb) ?_
        refine r_S_goes hb hpi hL5 (by rw [if_pos hly] at hcap; omega) (fun q hq => hkf _ q hpi hq) (hro _ hpi) ?_
        rw [op_mx i9 g hL hK hO hly]
        show WP _ _ _ _ 76 [.ref b, .int (nI i), v2, v3, v4] [] (mS b pre F G th (nd L (1 <<< po i)) (brs + 1) be po ro kf (uN' bg brs (bG (mxS (nd left (pOf nr i)) (sc i) 9) (rt i))) (uN' en brs 99))
        refine wn_inc (lv' := [.ref b, .int (nI (i + 1)), v2, v3, v4]) rfl rfl rfl ?_
        refine wq_goto rfl ?_
        rw [if_pos hly] at heq hcap
        rw [List.length_cons] at hcap
        exact ih (i + 1) _ _ _ _ _ (bs ++ [(_, 99)]) (by omega) (OpI_go i9 g hL hO hly) (by rw [List.length_append, hl]; rfl) (ent_snoc hl hent) (by rw [List.append_assoc]; exact heq) (by omega)
      · skip
        show WP _ _ _ _ 47 [.ref b, .int (nI i), v2, v3, v4] [.int (nI 0)] (mS b pre F G th L brs be po ro kf bg en)
        refine wq_if_eq rfl (fun _ => ?_) (fun c => absurd c (by decide))
        refine wn_inc (lv' := [.ref b, .int (nI (i + 1)), v2, v3, v4]) rfl rfl rfl ?_
        refine wq_goto rfl ?_
        have hln : ¬ left.testBit i = true := fun y => by rw [hbi, c44] at y; exact absurd y.2 (by decide)
        rw [if_neg hln] at heq hcap
        exact ih (i + 1) _ _ _ _ _ bs (by omega) (OpI_skip i9 hO hln) hl hent heq hcap
    · skip
      show WP _ _ _ _ 31 [.ref b, .int (nI i), v2, v3, v4] [.int (nI 0)] (mS b pre F G th L brs be po ro kf bg en)
      refine wq_if_eq rfl (fun _ => ?_) (fun c => absurd c (by decide))
      refine wn_inc (lv' := [.ref b, .int (nI (i + 1)), v2, v3, v4]) rfl rfl rfl ?_
      refine wq_goto rfl ?_
      have hln : ¬ left.testBit i = true := fun y => by rw [hbi, ← hth, c28] at y; exact absurd y.1 (by decide)
      rw [if_neg hln] at heq hcap
      exact ih (i + 1) _ _ _ _ _ bs (by omega) (OpI_skip i9 hO hln) hl hent heq hcap
theorem inA_self (f : Nat → Nat) (i : Nat) : inA f i i (f i) = f := by
  unfold inA
  rw [shA_0]
  funext j
  unfold uN'
  split
  next h => rw [h]
  next => rfl
theorem inA_out {f : Nat → Nat} {p nn x j : Nat} (h : nn < j) (hp : p ≤ nn) : inA f p nn x j = f j := by
  unfold inA
  rw [uN_n (by omega)]
  unfold shA
  rw [if_neg (by omega)]
theorem inA_sw {f : Nat → Nat} {k i x : Nat} (h : k + 1 ≤ i) : uN' (uN' (inA f (k + 1) i x) (k + 1) (inA f (k + 1) i x k)) k (inA f (k + 1) i x (k + 1)) = inA f k i x := by
  funext j
  by_cases e1 : j = k
  · subst e1
    rw [uN_s, inA_at, inA_at]
  · rw [uN_n e1]
    by_cases e2 : j = k + 1
    · subst e2
      rw [uN_s, inA_lo (by omega), inA_hi (by omega) h]
      rfl
    · rw [uN_n e2]
      rcases Nat.lt_or_ge j k with r | r
      · rw [inA_lo (by omega), inA_lo r]
      · rcases Nat.lt_or_ge i j with q | q
        · rw [inA_out q (by omega), inA_out q (by omega)]
        · rw [inA_hi (by omega) q, inA_hi (by omega) q]
theorem key_lt {a c x y : Nat} (h1 : 1 ≤ c) (h2 : c ≤ 99) (h3 : 1 ≤ y) (h4 : y ≤ 99) : 99 * x + y < 99 * a + c ↔ gtP a c x y = true := by
  rw [gtP_iff]
  omega
/-- bars' numbers are right -/
def BV (x : Nat × Nat) : Prop := 1 ≤ x.1 ∧ x.1 ≤ 40 ∧ 1 ≤ x.2 ∧ x.2 ≤ 99
theorem l_S_insI {d b : Nat} {pre : mH} {F : Nat → Nat} {G : Nat → Nat → Nat} {th pcs brs : Nat} {be po ro : Nat → Nat} {kf : Nat → Nat → Nat} {Q : Option Value → mH → Prop} (hb : pre.length = b) {f g : Nat → Nat} {i : Nat} (hi : i < 60) (hv : ∀ j, j ≤ i → BV (f j, g j)) (hk : ∀ p v3 v4, p ≤ i → (∀ j, p ≤ j → j < i → gtP (f j) (g j) (f i) (g i) = true) → (p = 0 ∨ gtP (f (p - 1)) (g (p - 1)) (f i) (g i) = false) → WP (Rn mprog (d + 2)) k_M_runsAll (some .boolean) Q 205 [.ref b, .int (nI i), .int (nI p), v3, v4] [] (mS b pre F G th pcs brs be po ro kf (inA f p i (f i)) (inA g p i (g i)))) : ∀ (k : Nat) (v3 v4 : Value), k ≤ i → (∀ j, k ≤ j → j < i → gtP (f j) (g j) (f i) (g i) = true) → WP (Rn mprog (d + 2)) k_M_runsAll (some .boolean) Q 94 [.ref b, .int (nI i), .int (nI k), v3, v4] [] (mS b pre F G th pcs brs be po ro kf (inA f k i (f i)) (inA g k i (g i))) := by
  intro k
  induction k with
  | zero =>
    intro v3 v4 _ hj
    refine wq_iload_n rfl rfl ?_
    refine wq_if_le rfl (fun _ => ?_) (fun c => absurd c (by decide))
    exact hk 0 v3 v4 (Nat.zero_le _) hj (Or.inl rfl)
  | succ k ih =>
    intro v3 v4 hki hj
    have e1 : inA f (k + 1) i (f i) (k + 1) = f i := inA_at
    have e2 : inA g (k + 1) i (g i) (k + 1) = g i := inA_at
    have e3 : inA f (k + 1) i (f i) k = f k := inA_lo (Nat.lt_succ_self k)
    have e4 : inA g (k + 1) i (g i) k = g k := inA_lo (Nat.lt_succ_self k)
    obtain ⟨b1, b2, b3, b4⟩ := hv i (Nat.le_refl i)
    obtain ⟨b5, b6, b7, b8⟩ := hv k (by omega)
    dsimp only at b1 b2 b3 b4 b5 b6 b7 b8
    have hkey := key_lt (a := f k) (c := g k) (x := f i) (y := g i) b7 b8 b3 b4
    refine wq_iload_n rfl rfl ?_
    refine wn_if_le rfl (by omega) (fun c95 => absurd c95 (by omega)) (fun c95 => ?_)
    refine wq_bipush (v := nI 99) rfl (by decide) ?_
    refine wq_aload_n rfl rfl ?_
    refine wq_getfield (v := .ref (b + 9)) rfl (mS_o hb) rfl ?_
    refine wq_iload_n rfl rfl ?_
    refine wn_iaload (g := (inA f (k + 1) i (f i))) rfl (mS_a14 hb) (by omega) (by decide) ?_
    refine wn_imul rfl ?_
    refine wq_aload_n rfl rfl ?_
    refine wq_getfield (v := .ref (b + 10)) rfl (mS_o hb) rfl ?_
    refine wq_iload_n rfl rfl ?_
    refine wn_iaload (g := (inA g (k + 1) i (g i))) rfl (mS_a15 hb) (by omega) (by decide) ?_
    refine wn_iadd rfl ?_
    refine wq_bipush (v := nI 99) rfl (by decide) ?_
    refine wq_aload_n rfl rfl ?_
    refine wq_getfield (v := .ref (b + 9)) rfl (mS_o hb) rfl ?_
    refine wq_iload_n rfl rfl ?_
    refine wq_iconst (v := nI 1) rfl (by decide) ?_
    refine wq_isub (v := nI k) rfl (nI_pred _) ?_
    refine wn_iaload (g := (inA f (k + 1) i (f i))) rfl (mS_a14 hb) (by omega) (by decide) ?_
    refine wn_imul rfl ?_
    refine wq_aload_n rfl rfl ?_
    refine wq_getfield (v := .ref (b + 10)) rfl (mS_o hb) rfl ?_
    refine wq_iload_n rfl rfl ?_
    refine wq_iconst (v := nI 1) rfl (by decide) ?_
    refine wq_isub (v := nI k) rfl (nI_pred _) ?_
    refine wn_iaload (g := (inA g (k + 1) i (g i))) rfl (mS_a15 hb) (by omega) (by decide) ?_
    refine wn_iadd rfl ?_
    refine wn_ic_ge rfl (by omega) (by omega) (fun c134 => ?_) (fun c134 => ?_)
    · skip
      refine hk (k + 1) v3 v4 hki hj (Or.inr ?_)
      show gtP (f k) (g k) (f i) (g i) = false
      cases z : gtP (f k) (g k) (f i) (g i)
      · rfl
      · have := hkey.mpr z
        omega
    · skip
      refine wq_aload_n rfl rfl ?_
      refine wq_getfield (v := .ref (b + 9)) rfl (mS_o hb) rfl ?_
      refine wq_iload_n rfl rfl ?_
      refine wn_iaload (g := (inA f (k + 1) i (f i))) rfl (mS_a14 hb) (by omega) (by decide) ?_
      refine wq_istore_n (lv' := [.ref b, .int (nI i), .int (nI (k + 1)), .int (nI (((inA f (k + 1) i (f i))) (k + 1))), v4]) rfl rfl rfl ?_
      refine wq_aload_n rfl rfl ?_
      refine wq_getfield (v := .ref (b + 10)) rfl (mS_o hb) rfl ?_
      refine wq_iload_n rfl rfl ?_
      refine wn_iaload (g := (inA g (k + 1) i (g i))) rfl (mS_a15 hb) (by omega) (by decide) ?_
      refine wq_istore (lv' := [.ref b, .int (nI i), .int (nI (k + 1)), .int (nI (((inA f (k + 1) i (f i))) (k + 1))), .int (nI (((inA g (k + 1) i (g i))) (k + 1)))]) rfl rfl rfl ?_
      refine wq_aload_n rfl rfl ?_
      refine wq_getfield (v := .ref (b + 9)) rfl (mS_o hb) rfl ?_
      refine wq_iload_n rfl rfl ?_
      refine wq_aload_n rfl rfl ?_
      refine wq_getfield (v := .ref (b + 9)) rfl (mS_o hb) rfl ?_
      refine wq_iload_n rfl rfl ?_
      refine wq_iconst (v := nI 1) rfl (by decide) ?_
      refine wq_isub (v := nI k) rfl (nI_pred _) ?_
      refine wn_iaload (g := (inA f (k + 1) i (f i))) rfl (mS_a14 hb) (by omega) (by decide) ?_
      refine wn_iastore (g := (inA f (k + 1) i (f i))) (h' := mS b pre F G th pcs brs be po ro kf (uN' ((inA f (k + 1) i (f i))) (k + 1) (((inA f (k + 1) i (f i))) k)) (inA g (k + 1) i (g i))) rfl (mS_a14 hb) (by omega) (by decide) (mS_t14 hb) ?_
      refine wq_aload_n rfl rfl ?_
      refine wq_getfield (v := .ref (b + 10)) rfl (mS_o hb) rfl ?_
      refine wq_iload_n rfl rfl ?_
      refine wq_aload_n rfl rfl ?_
      refine wq_getfield (v := .ref (b + 10)) rfl (mS_o hb) rfl ?_
      refine wq_iload_n rfl rfl ?_
      refine wq_iconst (v := nI 1) rfl (by decide) ?_
      refine wq_isub (v := nI k) rfl (nI_pred _) ?_
      refine wn_iaload (g := (inA g (k + 1) i (g i))) rfl (mS_a15 hb) (by omega) (by decide) ?_
      refine wn_iastore (g := (inA g (k + 1) i (g i))) (h' := mS b pre F G th pcs brs be po ro kf (uN' ((inA f (k + 1) i (f i))) (k + 1) (((inA f (k + 1) i (f i))) k)) (uN' ((inA g (k + 1) i (g i))) (k + 1) (((inA g (k + 1) i (g i))) k))) rfl (mS_a15 hb) (by omega) (by decide) (mS_t15 hb) ?_
      refine wq_aload_n rfl rfl ?_
      refine wq_getfield (v := .ref (b + 9)) rfl (mS_o hb) rfl ?_
      refine wq_iload_n rfl rfl ?_
      refine wq_iconst (v := nI 1) rfl (by decide) ?_
      refine wq_isub (v := nI k) rfl (nI_pred _) ?_
      refine wq_iload_n rfl rfl ?_
      refine wn_iastore (g := (uN' ((inA f (k + 1) i (f i))) (k + 1) (((inA f (k + 1) i (f i))) k))) (h' := mS b pre F G th pcs brs be po ro kf (uN' ((uN' ((inA f (k + 1) i (f i))) (k + 1) (((inA f (k + 1) i (f i))) k))) k (((inA f (k + 1) i (f i))) (k + 1))) (uN' ((inA g (k + 1) i (g i))) (k + 1) (((inA g (k + 1) i (g i))) k))) rfl (mS_a14 hb) (by omega) (by decide) (mS_t14 hb) ?_
      refine wq_aload_n rfl rfl ?_
      refine wq_getfield (v := .ref (b + 10)) rfl (mS_o hb) rfl ?_
      refine wq_iload_n rfl rfl ?_
      refine wq_iconst (v := nI 1) rfl (by decide) ?_
      refine wq_isub (v := nI k) rfl (nI_pred _) ?_
      refine wq_iload rfl rfl ?_
      refine wn_iastore (g := (uN' ((inA g (k + 1) i (g i))) (k + 1) (((inA g (k + 1) i (g i))) k))) (h' := mS b pre F G th pcs brs be po ro kf (uN' ((uN' ((inA f (k + 1) i (f i))) (k + 1) (((inA f (k + 1) i (f i))) k))) k (((inA f (k + 1) i (f i))) (k + 1))) (uN' ((uN' ((inA g (k + 1) i (g i))) (k + 1) (((inA g (k + 1) i (g i))) k))) k (((inA g (k + 1) i (g i))) (k + 1)))) rfl (mS_a15 hb) (by omega) (by decide) (mS_t15 hb) ?_
      refine wn_dec (lv' := [.ref b, .int (nI i), .int (nI k), .int (nI (((inA f (k + 1) i (f i))) (k + 1))), .int (nI (((inA g (k + 1) i (g i))) (k + 1)))]) rfl rfl rfl ?_
      refine wq_goto rfl ?_
      rw [inA_sw hki, inA_sw hki]
      exact ih _ _ (by omega) (fun j q1 q2 => by
        rcases Nat.lt_or_eq_of_le q1 with r | r
        · exact hj j (by omega) q2
        · subst r
          exact hkey.mp (by omega))
