/-! the reference: items and reading -/
theorem nI_neg {v : Int32} {k : Nat} (hv : v < 0) (hk : k < 2 ^ 31) : v < nI k := by
  rcases Nat.eq_zero_or_pos k with e | e
  · subst e; exact hv
  · exact Int32.lt_trans hv ((nI_ltI (a := 0) (by decide) hk).mpr e)
theorem nI_ngl {v : Int32} {k : Nat} (hv : v < 0) (hk : k < 2 ^ 31) : ¬ nI k ≤ v := fun z => Int32.not_lt.mpr z (nI_neg hv hk)
theorem i32_cases (v : Int32) : v < 0 ∨ ∃ k, k < 2 ^ 31 ∧ v = nI k := by
  by_cases h : v < 0
  · exact Or.inl h
  · refine Or.inr ⟨v.toInt.toNat, ?_, ?_⟩
    · have h1 := v.toInt_lt
      have h2 : 0 ≤ v.toInt := by
        have := Int32.not_lt.mp h
        rw [Int32.le_iff_toInt_le] at this
        exact this
      omega
    · have h2 : 0 ≤ v.toInt := by
        have := Int32.not_lt.mp h
        rw [Int32.le_iff_toInt_le] at this
        exact this
      have e : nI v.toInt.toNat = Int32.ofInt ((v.toInt.toNat : Nat) : Int) := rfl
      rw [e, Int.toNat_of_nonneg h2, Int32.ofInt_toInt]
theorem nI_n4 {k : Nat} (hk : k < 2 ^ 31) : nI k ≠ (-4) := fun z => by
  have h1 : (-4 : Int32) < nI k := nI_neg (by decide) hk
  rw [z] at h1
  exact absurd h1 (by decide)
theorem r_M_inN {d : Nat} {h : mH} {Q : Option Value → mH → Prop} {v x y : Nat} (hv : v < 2 ^ 31) (hx : x < 2 ^ 31) (hy : y < 2 ^ 31) (kt : x ≤ v ∧ v ≤ y → Q (some (.int (nI 1))) h) (kf : ¬ (x ≤ v ∧ v ≤ y) → Q (some (.int (nI 0))) h) : Rn mprog (d + 1) n_M_in [.int (nI v), .int (nI x), .int (nI y)] h Q :=
  r_M_in (fun c => kt ⟨(nI_leI hx hv).mp c.1, (nI_leI hv hy).mp c.2⟩) (fun c => kf (fun z => c ⟨(nI_leI hx hv).mpr z.1, (nI_leI hv hy).mpr z.2⟩))
theorem r_M_inF {d : Nat} {h : mH} {Q : Option Value → mH → Prop} {v y : Int32} {x : Nat} (hv : v < 0) (hx : x < 2 ^ 31) (kf : Q (some (.int (nI 0))) h) : Rn mprog (d + 1) n_M_in [.int v, .int (nI x), .int y] h Q :=
  r_M_in (fun c => absurd c.1 (nI_ngl hv hx)) (fun _ => kf)
theorem r_M_codeOf {d : Nat} {h : mH} {Q : Option Value → mH → Prop} {κ x y : Nat} (hk : κ < 4) (hx : x < 9) (hy : y < 9) (hQ : Q (some (.int (nI (cdN κ x y)))) h) : Rn mprog (d + 1) n_M_codeOf [.int (nI κ), .int (nI x), .int (nI y)] h Q := by
  refine Rn.in rfl rfl rfl ?_
  show WP _ _ _ _ 0 [.int (nI κ), .int (nI x), .int (nI y)] [] h
  refine wq_iload_n rfl rfl ?_
  refine wq_iconst (v := nI 2) rfl (by decide) ?_
  refine wn_ic_ge rfl (by omega) (by omega) (fun c2 => ?_) (fun c2 => ?_)
  · skip
    refine wq_iload_n rfl rfl ?_
    refine wq_iload_n rfl rfl ?_
    refine wn_ic_ge rfl (by omega) (by omega) (fun c19 => ?_) (fun c19 => ?_)
    · skip
      refine wq_bipush (v := nI 100) rfl (by decide) ?_
      refine wq_iload_n rfl rfl ?_
      refine wn_imul rfl ?_
      refine wq_bipush (v := nI 10) rfl (by decide) ?_
      refine wq_iload_n rfl rfl ?_
      refine wn_imul rfl ?_
      refine wn_iadd rfl ?_
      refine wq_iload_n rfl rfl ?_
      refine wn_iadd rfl ?_
      refine wq_iret rfl trivial ?_
      unfold cdN at hQ
      rw [if_neg (by omega), if_neg (by omega)] at hQ
      exact hQ
    · skip
      refine wq_bipush (v := nI 100) rfl (by decide) ?_
      refine wq_iload_n rfl rfl ?_
      refine wn_imul rfl ?_
      refine wq_bipush (v := nI 10) rfl (by decide) ?_
      refine wq_iload_n rfl rfl ?_
      refine wn_imul rfl ?_
      refine wn_iadd rfl ?_
      refine wq_iload_n rfl rfl ?_
      refine wn_iadd rfl ?_
      refine wq_goto rfl ?_
      refine wq_iret rfl trivial ?_
      unfold cdN at hQ
      rw [if_neg (by omega), if_pos c19] at hQ
      exact hQ
  · skip
    refine wq_bipush (v := nI 100) rfl (by decide) ?_
    refine wq_iload_n rfl rfl ?_
    refine wn_imul rfl ?_
    refine wq_bipush (v := nI 10) rfl (by decide) ?_
    refine wq_iload_n rfl rfl ?_
    refine wn_imul rfl ?_
    refine wn_iadd rfl ?_
    refine wq_goto rfl ?_
    refine wq_iret rfl trivial ?_
    unfold cdN at hQ
    rw [if_pos c2] at hQ
    exact hQ
theorem r_M_letterOf {d b : Nat} {pre : mH} {tn : Nat} {lt : Nat} {un : Nat} {kp : Nat} {ap : Nat} {wb : Nat} {tx : Nat → Nat} {sq : Nat → Nat} {pa : Nat → Nat} {ke : Nat → Nat} {to : Nat → Nat} {wg : Nat → Nat} {we : Nat → Nat} {th : Nat} {pcs : Nat} {brs : Nat} {be : Nat → Nat} {po : Nat → Nat} {ro : Nat → Nat} {kf : Nat → Nat → Nat} {bg : Nat → Nat} {en : Nat → Nat} {Q : Option Value → mH → Prop} (hb : pre.length = b) {cd pl : Nat} (hcd : cd < 400) (hp : pl < 4) (hQ : Q (some (.int (nI (leN (cd / 100) (cd / 10 % 10) (cd % 10) pl)))) (mR b pre tn lt un kp ap wb tx sq pa ke to wg we th pcs brs be po ro kf bg en)) : Rn mprog (d + 2) n_M_letterOf [.ref b, .int (nI cd), .int (nI pl)] (mR b pre tn lt un kp ap wb tx sq pa ke to wg we th pcs brs be po ro kf bg en) Q := by
  refine Rn.in rfl rfl rfl ?_
  show WP _ _ _ _ 0 [.ref b, .int (nI cd), .int (nI pl), .long 0] [] (mR b pre tn lt un kp ap wb tx sq pa ke to wg we th pcs brs be po ro kf bg en)
  refine wq_iload_n rfl rfl ?_
  refine wq_stat (a := [.int (nI cd)]) (rest := []) rfl rfl rfl rfl rfl ?_
  refine r_M_kindOf (by omega) ?_
  show WP _ _ _ _ 4 [.ref b, .int (nI cd), .int (nI pl), .long 0] [.int (nI (cd / 100))] (mR b pre tn lt un kp ap wb tx sq pa ke to wg we th pcs brs be po ro kf bg en)
  refine wq_istore_n (lv' := [.ref b, .int (nI cd), .int (nI pl), .int (nI (cd / 100))]) rfl rfl rfl ?_
  refine wq_iload_n rfl rfl ?_
  refine wn_if_ne rfl (by omega) (fun c6 => ?_) (fun c6 => ?_)
  · skip
    refine wq_iload_n rfl rfl ?_
    refine wq_iconst (v := nI 1) rfl (by decide) ?_
    refine wn_ic_ne rfl (by omega) (by omega) (fun c43 => ?_) (fun c43 => ?_)
    · skip
      refine wq_iload_n rfl rfl ?_
      refine wq_iconst (v := nI 2) rfl (by decide) ?_
      refine wn_ic_ne rfl (by omega) (by omega) (fun c58 => ?_) (fun c58 => ?_)
      · skip
        refine wq_bipush (v := nI 59) rfl (by decide) ?_
        refine wq_iret rfl trivial ?_
        unfold leN klN at hQ
        rw [if_neg (by omega), if_neg (by omega), if_neg (by omega)] at hQ
        exact hQ
      · skip
        refine wq_iload_n rfl rfl ?_
        refine wq_iconst (v := nI 1) rfl (by decide) ?_
        refine wn_ic_le rfl (by omega) (by omega) (fun c63 => ?_) (fun c63 => ?_)
        · skip
          refine wq_bipush (v := nI 59) rfl (by decide) ?_
          refine wq_iret rfl trivial ?_
          unfold leN klN at hQ
          rw [if_neg (by omega), if_neg (by omega), if_neg (by omega)] at hQ
          exact hQ
        · skip
          refine wq_bipush (v := nI 48) rfl (by decide) ?_
          refine wq_iload_n rfl rfl ?_
          refine wq_stat (a := [.int (nI cd)]) (rest := [.int (nI 48)]) rfl rfl rfl rfl rfl ?_
          refine r_M_otherOf (by omega) ?_
          show WP _ _ _ _ 72 [.ref b, .int (nI cd), .int (nI pl), .int (nI (cd / 100))] [.int (nI (cd % 10)), .int (nI 48)] (mR b pre tn lt un kp ap wb tx sq pa ke to wg we th pcs brs be po ro kf bg en)
          refine wn_iadd rfl ?_
          refine wq_goto rfl ?_
          refine wq_iret rfl trivial ?_
          unfold leN klN at hQ
          rw [if_neg (by omega), if_neg (by omega), if_pos ⟨c58, by omega⟩] at hQ
          exact hQ
    · skip
      refine wq_bipush (v := nI 48) rfl (by decide) ?_
      refine wq_iload_n rfl rfl ?_
      refine wq_stat (a := [.int (nI cd)]) (rest := [.int (nI 48)]) rfl rfl rfl rfl rfl ?_
      refine r_M_oneOf (by omega) ?_
      show WP _ _ _ _ 52 [.ref b, .int (nI cd), .int (nI pl), .int (nI (cd / 100))] [.int (nI (cd / 10 % 10)), .int (nI 48)] (mR b pre tn lt un kp ap wb tx sq pa ke to wg we th pcs brs be po ro kf bg en)
      refine wn_iadd rfl ?_
      refine wq_goto rfl ?_
      refine wq_iret rfl trivial ?_
      unfold leN klN at hQ
      rw [if_neg (by omega), if_pos c43] at hQ
      exact hQ
  · skip
    refine wq_iload_n rfl rfl ?_
    refine wn_if_ne rfl (by omega) (fun c10 => ?_) (fun c10 => ?_)
    · skip
      refine wq_iload_n rfl rfl ?_
      refine wq_iconst (v := nI 1) rfl (by decide) ?_
      refine wn_ic_ne rfl (by omega) (by omega) (fun c20 => ?_) (fun c20 => ?_)
      · skip
        refine wq_iload_n rfl rfl ?_
        refine wq_iconst (v := nI 2) rfl (by decide) ?_
        refine wn_ic_ne rfl (by omega) (by omega) (fun c30 => ?_) (fun c30 => ?_)
        · skip
          refine wq_bipush (v := nI 102) rfl (by decide) ?_
          refine wq_iret rfl trivial ?_
          unfold leN klN at hQ
          rw [if_pos c6, if_neg (by omega), if_neg (by omega), if_neg (by omega)] at hQ
          exact hQ
        · skip
          refine wq_bipush (v := nI 101) rfl (by decide) ?_
          refine wq_goto rfl ?_
          refine wq_iret rfl trivial ?_
          unfold leN klN at hQ
          rw [if_pos c6, if_neg (by omega), if_neg (by omega), if_pos c30] at hQ
          exact hQ
      · skip
        refine wq_bipush (v := nI 119) rfl (by decide) ?_
        refine wq_goto rfl ?_
        refine wq_iret rfl trivial ?_
        unfold leN klN at hQ
        rw [if_pos c6, if_neg (by omega), if_pos c20] at hQ
        exact hQ
    · skip
      refine wq_bipush (v := nI 118) rfl (by decide) ?_
      refine wq_goto rfl ?_
      refine wq_iret rfl trivial ?_
      unfold leN klN at hQ
      rw [if_pos c6, if_pos c10] at hQ
      exact hQ
theorem r_M_figureAt {d b : Nat} {pre : mH} {tn : Nat} {lt : Nat} {un : Nat} {kp : Nat} {ap : Nat} {wb : Nat} {tx : Nat → Nat} {sq : Nat → Nat} {pa : Nat → Nat} {ke : Nat → Nat} {to : Nat → Nat} {wg : Nat → Nat} {we : Nat → Nat} {th : Nat} {pcs : Nat} {brs : Nat} {be : Nat → Nat} {po : Nat → Nat} {ro : Nat → Nat} {kf : Nat → Nat → Nat} {bg : Nat → Nat} {en : Nat → Nat} {Q : Option Value → mH → Prop} (hb : pre.length = b) (hl : lt ≤ 200) (htx : ∀ i, i < lt → tx i < 127) {p : Nat} (hp : p < 1000) (kt : figL (ltr lt tx p) → Q (some (.int (nI (ltr lt tx p - 48)))) (mR b pre tn lt un kp ap wb tx sq pa ke to wg we th pcs brs be po ro kf bg en)) (kfl : ¬ figL (ltr lt tx p) → Q (some (.int (-4))) (mR b pre tn lt un kp ap wb tx sq pa ke to wg we th pcs brs be po ro kf bg en)) : Rn mprog (d + 2) n_M_figureAt [.ref b, .int (nI p)] (mR b pre tn lt un kp ap wb tx sq pa ke to wg we th pcs brs be po ro kf bg en) Q := by
  refine Rn.in rfl rfl rfl ?_
  show WP _ _ _ _ 0 [.ref b, .int (nI p)] [] (mR b pre tn lt un kp ap wb tx sq pa ke to wg we th pcs brs be po ro kf bg en)
  refine wq_iload_n rfl rfl ?_
  refine wq_aload_n rfl rfl ?_
  refine wq_getfield (v := .int (nI lt)) rfl (mS_o hb) rfl ?_
  refine wn_ic_ge rfl (by omega) (by omega) (fun c5 => ?_) (fun c5 => ?_)
  · skip
    refine wq_bipush (v := (-4)) rfl (by decide) ?_
    refine wq_iret rfl trivial ?_
    rw [ltr_out c5] at kfl
    exact kfl (by decide)
  · skip
    refine wq_aload_n rfl rfl ?_
    refine wq_getfield (v := .ref (b + 1)) rfl (mS_o hb) rfl ?_
    refine wq_iload_n rfl rfl ?_
    refine wn_baload (g := tx) rfl (mS_a1 hb) (by omega) (by decide) ?_
    refine wq_bipush (v := nI 48) rfl (by decide) ?_
    refine wq_bipush (v := nI 56) rfl (by decide) ?_
    refine wq_stat (a := [.int (nI (tx p)), .int (nI 48), .int (nI 56)]) (rest := []) rfl rfl rfl rfl rfl ?_
    have ht := htx p c5
    refine r_M_inN (by omega) (by omega) (by omega) (fun c18 => ?_) (fun c18 => ?_)
    · skip
      show WP _ _ _ _ 21 [.ref b, .int (nI p)] [.int (nI 1)] (mR b pre tn lt un kp ap wb tx sq pa ke to wg we th pcs brs be po ro kf bg en)
      refine wq_if_eq rfl (fun c => absurd c (by decide)) (fun _ => ?_)
      refine wq_aload_n rfl rfl ?_
      refine wq_getfield (v := .ref (b + 1)) rfl (mS_o hb) rfl ?_
      refine wq_iload_n rfl rfl ?_
      refine wn_baload (g := tx) rfl (mS_a1 hb) (by omega) (by decide) ?_
      refine wq_bipush (v := nI 48) rfl (by decide) ?_
      refine wn_isub rfl (by omega) ?_
      refine wq_goto rfl ?_
      refine wq_iret rfl trivial ?_
      rw [ltr_in c5] at kt
      exact kt c18
    · skip
      show WP _ _ _ _ 21 [.ref b, .int (nI p)] [.int (nI 0)] (mR b pre tn lt un kp ap wb tx sq pa ke to wg we th pcs brs be po ro kf bg en)
      refine wq_if_eq rfl (fun _ => ?_) (fun c => absurd c (by decide))
      refine wq_bipush (v := (-4)) rfl (by decide) ?_
      refine wq_iret rfl trivial ?_
      rw [ltr_in c5] at kfl
      exact kfl c18
theorem r_M_item {d b : Nat} {pre : mH} {tn : Nat} {lt : Nat} {un : Nat} {kp : Nat} {ap : Nat} {wb : Nat} {tx : Nat → Nat} {sq : Nat → Nat} {pa : Nat → Nat} {ke : Nat → Nat} {to : Nat → Nat} {wg : Nat → Nat} {we : Nat → Nat} {th : Nat} {pcs : Nat} {brs : Nat} {be : Nat → Nat} {po : Nat → Nat} {ro : Nat → Nat} {kf : Nat → Nat → Nat} {bg : Nat → Nat} {en : Nat → Nat} {Q : Option Value → mH → Prop} (hb : pre.length = b) (hl : lt ≤ 200) (htx : ∀ i, i < lt → tx i < 127) (hap : ap < lt) (kt : ∀ ac, itA lt tx ap = some ac → Q (some (.int (nI (cdA ac)))) (mR b pre tn lt un kp (ap + ilN (ac >>> 8)) wb tx sq pa ke to wg we th pcs brs be po ro kf bg en)) (kfl : itA lt tx ap = none → Q (some (.int (-4))) (mR b pre tn lt un kp ap wb tx sq pa ke to wg we th pcs brs be po ro kf bg en)) : Rn mprog (d + 3) n_M_item [.ref b] (mR b pre tn lt un kp ap wb tx sq pa ke to wg we th pcs brs be po ro kf bg en) Q := by
  have ht := htx ap hap
  have hlb : ∀ q, ltr lt tx q < 127 := fun q => ltr_b htx
  have hl1 := hlb (ap + 1)
  have hl2 := hlb (ap + 2)
  refine Rn.in rfl rfl rfl ?_
  show WP _ _ _ _ 0 [.ref b, .long 0, .long 0, .long 0, .long 0, .long 0] [] (mR b pre tn lt un kp ap wb tx sq pa ke to wg we th pcs brs be po ro kf bg en)
  refine wq_aload_n rfl rfl ?_
  refine wq_getfield (v := .ref (b + 1)) rfl (mS_o hb) rfl ?_
  refine wq_aload_n rfl rfl ?_
  refine wq_getfield (v := .int (nI ap)) rfl (mS_o hb) rfl ?_
  refine wn_baload (g := tx) rfl (mS_a1 hb) (by omega) (by decide) ?_
  refine wq_istore_n (lv' := [.ref b, .int (nI (tx ap)), .long 0, .long 0, .long 0, .long 0]) rfl rfl rfl ?_
  refine wq_iload_n rfl rfl ?_
  refine wq_bipush (v := nI 118) rfl (by decide) ?_
  refine wn_ic_ne rfl (by omega) (by omega) (fun c13 => ?_) (fun c13 => ?_)
  · skip
    refine wq_iload_n rfl rfl ?_
    refine wq_bipush (v := nI 119) rfl (by decide) ?_
    refine wn_ic_ne rfl (by omega) (by omega) (fun c23 => ?_) (fun c23 => ?_)
    · skip
      refine wq_iload_n rfl rfl ?_
      refine wq_bipush (v := nI 101) rfl (by decide) ?_
      refine wn_ic_ne rfl (by omega) (by omega) (fun c33 => ?_) (fun c33 => ?_)
      · skip
        refine wq_iload_n rfl rfl ?_
        refine wq_bipush (v := nI 102) rfl (by decide) ?_
        refine wn_ic_ne rfl (by omega) (by omega) (fun c43 => ?_) (fun c43 => ?_)
        · skip
          refine wq_bipush (v := (-4)) rfl (by decide) ?_
          refine wq_istore_n (lv' := [.ref b, .int (nI (tx ap)), .int ((-4)), .long 0, .long 0, .long 0]) rfl rfl rfl ?_
          refine wq_iload_n rfl rfl ?_
          refine wq_bipush (v := (-4)) rfl (by decide) ?_
          refine wq_ic_ne rfl (fun c56 => absurd c56 (fun h => h rfl)) (fun c56 => ?_)
          refine wq_bipush (v := (-4)) rfl (by decide) ?_
          refine wq_iret rfl trivial ?_
          have hκ : kL (ltr lt tx ap) = 4 := by rw [ltr_in hap]; exact kL_4 c13 c23 c33 c43
          exact kfl (itA_n hκ (fun z => absurd z.1 (by decide)))
        · skip
          refine wq_iconst (v := nI 3) rfl (by decide) ?_
          refine wq_goto rfl ?_
          refine wq_istore_n (lv' := [.ref b, .int (nI (tx ap)), .int (nI 3), .long 0, .long 0, .long 0]) rfl rfl rfl ?_
          refine wq_iload_n rfl rfl ?_
          refine wq_bipush (v := (-4)) rfl (by decide) ?_
          refine wq_ic_ne rfl (fun c56 => ?_) (fun c56 => absurd c56 (by decide))
          refine wq_aload_n rfl rfl ?_
          refine wq_aload_n rfl rfl ?_
          refine wq_getfield (v := .int (nI ap)) rfl (mS_o hb) rfl ?_
          refine wq_iconst (v := nI 1) rfl (by decide) ?_
          refine wn_iadd rfl ?_
          refine wq_virt (b := b) (a := [.int (nI (ap + 1))]) (rest := []) rfl rfl rfl rfl rfl (mS_o hb) ?_
          refine r_M_figureAt hb hl htx (by omega) (fun c69 => ?_) (fun c69 => ?_)
          · skip
            show WP _ _ _ _ 72 [.ref b, .int (nI (tx ap)), .int (nI 3), .long 0, .long 0, .long 0] [.int (nI (ltr lt tx (ap + 1) - 48))] (mR b pre tn lt un kp ap wb tx sq pa ke to wg we th pcs brs be po ro kf bg en)
            refine wq_istore_n (lv' := [.ref b, .int (nI (tx ap)), .int (nI 3), .int (nI (ltr lt tx (ap + 1) - 48)), .long 0, .long 0]) rfl rfl rfl ?_
            refine wq_iload_n rfl rfl ?_
            refine wq_iconst (v := nI 2) rfl (by decide) ?_
            refine wq_ic_ge rfl (fun _ => ?_) (fun c => absurd c (by decide))
            refine wq_aload_n rfl rfl ?_
            refine wq_aload_n rfl rfl ?_
            refine wq_getfield (v := .int (nI ap)) rfl (mS_o hb) rfl ?_
            refine wq_iconst (v := nI 2) rfl (by decide) ?_
            refine wn_iadd rfl ?_
            refine wq_virt (b := b) (a := [.int (nI (ap + 2))]) (rest := []) rfl rfl rfl rfl rfl (mS_o hb) ?_
            refine r_M_figureAt hb hl htx (by omega) (fun c89 => ?_) (fun c89 => ?_)
            · skip
              show WP _ _ _ _ 92 [.ref b, .int (nI (tx ap)), .int (nI 3), .int (nI (ltr lt tx (ap + 1) - 48)), .long 0, .long 0] [.int (nI (ltr lt tx (ap + 2) - 48))] (mR b pre tn lt un kp ap wb tx sq pa ke to wg we th pcs brs be po ro kf bg en)
              refine wq_istore (lv' := [.ref b, .int (nI (tx ap)), .int (nI 3), .int (nI (ltr lt tx (ap + 1) - 48)), .int (nI (ltr lt tx (ap + 2) - 48)), .long 0]) rfl rfl rfl ?_
              refine wq_aload_n rfl rfl ?_
              refine wq_getfield (v := .int (nI ap)) rfl (mS_o hb) rfl ?_
              refine wq_iload_n rfl rfl ?_
              refine wq_iconst (v := nI 2) rfl (by decide) ?_
              refine wq_ic_ge rfl (fun _ => ?_) (fun c => absurd c (by decide))
              refine wq_iconst (v := nI 3) rfl (by decide) ?_
              refine wn_iadd rfl ?_
              refine wq_istore (lv' := [.ref b, .int (nI (tx ap)), .int (nI 3), .int (nI (ltr lt tx (ap + 1) - 48)), .int (nI (ltr lt tx (ap + 2) - 48)), .int (nI (ap + 3))]) rfl rfl rfl ?_
              refine wq_iload_n rfl rfl ?_
              refine wq_bipush (v := (-4)) rfl (by decide) ?_
              refine wq_ic_eq rfl (fun c114 => absurd c114 (nI_n4 (by omega))) (fun c114 => ?_)
              refine wq_iload rfl rfl ?_
              refine wq_bipush (v := (-4)) rfl (by decide) ?_
              refine wq_ic_eq rfl (fun c121 => absurd c121 (nI_n4 (by omega))) (fun c121 => ?_)
              refine wq_iload rfl rfl ?_
              refine wq_aload_n rfl rfl ?_
              refine wq_getfield (v := .int (nI lt)) rfl (mS_o hb) rfl ?_
              refine wn_ic_ge rfl (by omega) (by omega) (fun c130 => ?_) (fun c130 => ?_)
              · skip
                refine wq_bipush (v := (-4)) rfl (by decide) ?_
                refine wq_iret rfl trivial ?_
                have hκ : kL (ltr lt tx ap) = 3 := by rw [ltr_in hap]; exact kL_3 c43
                exact kfl (itA_n hκ (fun z => by have q := z.2.2.2; rw [show ap + ilN 3 - 1 = ap + 3 from rfl, ltr_out c130] at q; cases q))
              · skip
                refine wq_aload_n rfl rfl ?_
                refine wq_getfield (v := .ref (b + 1)) rfl (mS_o hb) rfl ?_
                refine wq_iload rfl rfl ?_
                refine wn_baload (g := tx) rfl (mS_a1 hb) (by omega) (by decide) ?_
                have ht3 := htx _ c130
                refine wq_bipush (v := nI 59) rfl (by decide) ?_
                refine wn_ic_eq rfl (by omega) (by omega) (fun c142 => ?_) (fun c142 => ?_)
                · skip
                  refine wq_aload_n rfl rfl ?_
                  refine wq_iload rfl rfl ?_
                  refine wq_iconst (v := nI 1) rfl (by decide) ?_
                  refine wn_iadd rfl ?_
                  refine wq_putfield (h' := mR b pre tn lt un kp ((ap + 3) + 1) wb tx sq pa ke to wg we th pcs brs be po ro kf bg en) rfl (mS_o hb) rfl (mS_s18 hb) ?_
                  refine wq_iload_n rfl rfl ?_
                  refine wq_iload_n rfl rfl ?_
                  refine wq_iload rfl rfl ?_
                  refine wq_stat (a := [.int (nI 3), .int (nI (ltr lt tx (ap + 1) - 48)), .int (nI (ltr lt tx (ap + 2) - 48))]) (rest := []) rfl rfl rfl rfl rfl ?_
                  have hκ : kL (ltr lt tx ap) = 3 := by rw [ltr_in hap]; exact kL_3 c43
                  have f1 := c69
                  unfold figL at f1
                  have f2 := c89
                  unfold figL at f2
                  have hit : itA lt tx ap = some (acN 3 (ltr lt tx (ap + 1) - 48) (ltr lt tx (ap + 2) - 48)) := by
                    rw [itA_y hκ (by decide) c69 (Or.inr c89) (by rw [show ap + ilN 3 - 1 = ap + 3 from rfl, ltr_in c130]; exact c142)]
                    rfl
                  have hx9 : ltr lt tx (ap + 1) - 48 < 9 := by omega
                  have hy9 : ltr lt tx (ap + 2) - 48 < 9 := by omega
                  have hfin := kt _ hit
                  rw [acN_cd (by decide) hx9 hy9, acN_k (by decide) hx9 hy9] at hfin
                  refine r_M_codeOf (by decide) hx9 hy9 ?_
                  show WP _ _ _ _ 163 [.ref b, .int (nI (tx ap)), .int (nI 3), .int (nI (ltr lt tx (ap + 1) - 48)), .int (nI (ltr lt tx (ap + 2) - 48)), .int (nI (ap + 3))] [.int (nI (cdN 3 (ltr lt tx (ap + 1) - 48) (ltr lt tx (ap + 2) - 48)))] (mR b pre tn lt un kp ((ap + 3) + 1) wb tx sq pa ke to wg we th pcs brs be po ro kf bg en)
                  refine wq_iret rfl trivial ?_
                  exact hfin
                · skip
                  refine wq_bipush (v := (-4)) rfl (by decide) ?_
                  refine wq_iret rfl trivial ?_
                  have hκ : kL (ltr lt tx ap) = 3 := by rw [ltr_in hap]; exact kL_3 c43
                  exact kfl (itA_n hκ (fun z => c142 (by have q := z.2.2.2; rw [show ap + ilN 3 - 1 = ap + 3 from rfl, ltr_in c130] at q; exact q)))
            · skip
              show WP _ _ _ _ 92 [.ref b, .int (nI (tx ap)), .int (nI 3), .int (nI (ltr lt tx (ap + 1) - 48)), .long 0, .long 0] [.int ((-4))] (mR b pre tn lt un kp ap wb tx sq pa ke to wg we th pcs brs be po ro kf bg en)
              refine wq_istore (lv' := [.ref b, .int (nI (tx ap)), .int (nI 3), .int (nI (ltr lt tx (ap + 1) - 48)), .int ((-4)), .long 0]) rfl rfl rfl ?_
              refine wq_aload_n rfl rfl ?_
              refine wq_getfield (v := .int (nI ap)) rfl (mS_o hb) rfl ?_
              refine wq_iload_n rfl rfl ?_
              refine wq_iconst (v := nI 2) rfl (by decide) ?_
              refine wq_ic_ge rfl (fun _ => ?_) (fun c => absurd c (by decide))
              refine wq_iconst (v := nI 3) rfl (by decide) ?_
              refine wn_iadd rfl ?_
              refine wq_istore (lv' := [.ref b, .int (nI (tx ap)), .int (nI 3), .int (nI (ltr lt tx (ap + 1) - 48)), .int ((-4)), .int (nI (ap + 3))]) rfl rfl rfl ?_
              refine wq_iload_n rfl rfl ?_
              refine wq_bipush (v := (-4)) rfl (by decide) ?_
              refine wq_ic_eq rfl (fun c114 => absurd c114 (nI_n4 (by omega))) (fun c114 => ?_)
              refine wq_iload rfl rfl ?_
              refine wq_bipush (v := (-4)) rfl (by decide) ?_
              refine wq_ic_eq rfl (fun c121 => ?_) (fun c121 => absurd c121 (fun h => h rfl))
              refine wq_bipush (v := (-4)) rfl (by decide) ?_
              refine wq_iret rfl trivial ?_
              have hκ : kL (ltr lt tx ap) = 3 := by rw [ltr_in hap]; exact kL_3 c43
              exact kfl (itA_n hκ (fun z => c89 (z.2.2.1.resolve_left (by decide))))
          · skip
            show WP _ _ _ _ 72 [.ref b, .int (nI (tx ap)), .int (nI 3), .long 0, .long 0, .long 0] [.int ((-4))] (mR b pre tn lt un kp ap wb tx sq pa ke to wg we th pcs brs be po ro kf bg en)
            refine wq_istore_n (lv' := [.ref b, .int (nI (tx ap)), .int (nI 3), .int ((-4)), .long 0, .long 0]) rfl rfl rfl ?_
            refine wq_iload_n rfl rfl ?_
            refine wq_iconst (v := nI 2) rfl (by decide) ?_
            refine wq_ic_ge rfl (fun _ => ?_) (fun c => absurd c (by decide))
            refine wq_aload_n rfl rfl ?_
            refine wq_aload_n rfl rfl ?_
            refine wq_getfield (v := .int (nI ap)) rfl (mS_o hb) rfl ?_
            refine wq_iconst (v := nI 2) rfl (by decide) ?_
            refine wn_iadd rfl ?_
            refine wq_virt (b := b) (a := [.int (nI (ap + 2))]) (rest := []) rfl rfl rfl rfl rfl (mS_o hb) ?_
            refine r_M_figureAt hb hl htx (by omega) (fun c89 => ?_) (fun c89 => ?_)
            · skip
              show WP _ _ _ _ 92 [.ref b, .int (nI (tx ap)), .int (nI 3), .int ((-4)), .long 0, .long 0] [.int (nI (ltr lt tx (ap + 2) - 48))] (mR b pre tn lt un kp ap wb tx sq pa ke to wg we th pcs brs be po ro kf bg en)
              refine wq_istore (lv' := [.ref b, .int (nI (tx ap)), .int (nI 3), .int ((-4)), .int (nI (ltr lt tx (ap + 2) - 48)), .long 0]) rfl rfl rfl ?_
              refine wq_aload_n rfl rfl ?_
              refine wq_getfield (v := .int (nI ap)) rfl (mS_o hb) rfl ?_
              refine wq_iload_n rfl rfl ?_
              refine wq_iconst (v := nI 2) rfl (by decide) ?_
              refine wq_ic_ge rfl (fun _ => ?_) (fun c => absurd c (by decide))
              refine wq_iconst (v := nI 3) rfl (by decide) ?_
              refine wn_iadd rfl ?_
              refine wq_istore (lv' := [.ref b, .int (nI (tx ap)), .int (nI 3), .int ((-4)), .int (nI (ltr lt tx (ap + 2) - 48)), .int (nI (ap + 3))]) rfl rfl rfl ?_
              refine wq_iload_n rfl rfl ?_
              refine wq_bipush (v := (-4)) rfl (by decide) ?_
              refine wq_ic_eq rfl (fun c114 => ?_) (fun c114 => absurd c114 (fun h => h rfl))
              refine wq_bipush (v := (-4)) rfl (by decide) ?_
              refine wq_iret rfl trivial ?_
              have hκ : kL (ltr lt tx ap) = 3 := by rw [ltr_in hap]; exact kL_3 c43
              exact kfl (itA_n hκ (fun z => c69 z.2.1))
            · skip
              show WP _ _ _ _ 92 [.ref b, .int (nI (tx ap)), .int (nI 3), .int ((-4)), .long 0, .long 0] [.int ((-4))] (mR b pre tn lt un kp ap wb tx sq pa ke to wg we th pcs brs be po ro kf bg en)
              refine wq_istore (lv' := [.ref b, .int (nI (tx ap)), .int (nI 3), .int ((-4)), .int ((-4)), .long 0]) rfl rfl rfl ?_
              refine wq_aload_n rfl rfl ?_
              refine wq_getfield (v := .int (nI ap)) rfl (mS_o hb) rfl ?_
              refine wq_iload_n rfl rfl ?_
              refine wq_iconst (v := nI 2) rfl (by decide) ?_
              refine wq_ic_ge rfl (fun _ => ?_) (fun c => absurd c (by decide))
              refine wq_iconst (v := nI 3) rfl (by decide) ?_
              refine wn_iadd rfl ?_
              refine wq_istore (lv' := [.ref b, .int (nI (tx ap)), .int (nI 3), .int ((-4)), .int ((-4)), .int (nI (ap + 3))]) rfl rfl rfl ?_
              refine wq_iload_n rfl rfl ?_
              refine wq_bipush (v := (-4)) rfl (by decide) ?_
              refine wq_ic_eq rfl (fun c114 => ?_) (fun c114 => absurd c114 (fun h => h rfl))
              refine wq_bipush (v := (-4)) rfl (by decide) ?_
              refine wq_iret rfl trivial ?_
              have hκ : kL (ltr lt tx ap) = 3 := by rw [ltr_in hap]; exact kL_3 c43
              exact kfl (itA_n hκ (fun z => c69 z.2.1))
      · skip
        refine wq_iconst (v := nI 2) rfl (by decide) ?_
        refine wq_goto rfl ?_
        refine wq_istore_n (lv' := [.ref b, .int (nI (tx ap)), .int (nI 2), .long 0, .long 0, .long 0]) rfl rfl rfl ?_
        refine wq_iload_n rfl rfl ?_
        refine wq_bipush (v := (-4)) rfl (by decide) ?_
        refine wq_ic_ne rfl (fun c56 => ?_) (fun c56 => absurd c56 (by decide))
        refine wq_aload_n rfl rfl ?_
        refine wq_aload_n rfl rfl ?_
        refine wq_getfield (v := .int (nI ap)) rfl (mS_o hb) rfl ?_
        refine wq_iconst (v := nI 1) rfl (by decide) ?_
        refine wn_iadd rfl ?_
        refine wq_virt (b := b) (a := [.int (nI (ap + 1))]) (rest := []) rfl rfl rfl rfl rfl (mS_o hb) ?_
        refine r_M_figureAt hb hl htx (by omega) (fun c69 => ?_) (fun c69 => ?_)
        · skip
          show WP _ _ _ _ 72 [.ref b, .int (nI (tx ap)), .int (nI 2), .long 0, .long 0, .long 0] [.int (nI (ltr lt tx (ap + 1) - 48))] (mR b pre tn lt un kp ap wb tx sq pa ke to wg we th pcs brs be po ro kf bg en)
          refine wq_istore_n (lv' := [.ref b, .int (nI (tx ap)), .int (nI 2), .int (nI (ltr lt tx (ap + 1) - 48)), .long 0, .long 0]) rfl rfl rfl ?_
          refine wq_iload_n rfl rfl ?_
          refine wq_iconst (v := nI 2) rfl (by decide) ?_
          refine wq_ic_ge rfl (fun _ => ?_) (fun c => absurd c (by decide))
          refine wq_aload_n rfl rfl ?_
          refine wq_aload_n rfl rfl ?_
          refine wq_getfield (v := .int (nI ap)) rfl (mS_o hb) rfl ?_
          refine wq_iconst (v := nI 2) rfl (by decide) ?_
          refine wn_iadd rfl ?_
          refine wq_virt (b := b) (a := [.int (nI (ap + 2))]) (rest := []) rfl rfl rfl rfl rfl (mS_o hb) ?_
          refine r_M_figureAt hb hl htx (by omega) (fun c89 => ?_) (fun c89 => ?_)
          · skip
            show WP _ _ _ _ 92 [.ref b, .int (nI (tx ap)), .int (nI 2), .int (nI (ltr lt tx (ap + 1) - 48)), .long 0, .long 0] [.int (nI (ltr lt tx (ap + 2) - 48))] (mR b pre tn lt un kp ap wb tx sq pa ke to wg we th pcs brs be po ro kf bg en)
            refine wq_istore (lv' := [.ref b, .int (nI (tx ap)), .int (nI 2), .int (nI (ltr lt tx (ap + 1) - 48)), .int (nI (ltr lt tx (ap + 2) - 48)), .long 0]) rfl rfl rfl ?_
            refine wq_aload_n rfl rfl ?_
            refine wq_getfield (v := .int (nI ap)) rfl (mS_o hb) rfl ?_
            refine wq_iload_n rfl rfl ?_
            refine wq_iconst (v := nI 2) rfl (by decide) ?_
            refine wq_ic_ge rfl (fun _ => ?_) (fun c => absurd c (by decide))
            refine wq_iconst (v := nI 3) rfl (by decide) ?_
            refine wn_iadd rfl ?_
            refine wq_istore (lv' := [.ref b, .int (nI (tx ap)), .int (nI 2), .int (nI (ltr lt tx (ap + 1) - 48)), .int (nI (ltr lt tx (ap + 2) - 48)), .int (nI (ap + 3))]) rfl rfl rfl ?_
            refine wq_iload_n rfl rfl ?_
            refine wq_bipush (v := (-4)) rfl (by decide) ?_
            refine wq_ic_eq rfl (fun c114 => absurd c114 (nI_n4 (by omega))) (fun c114 => ?_)
            refine wq_iload rfl rfl ?_
            refine wq_bipush (v := (-4)) rfl (by decide) ?_
            refine wq_ic_eq rfl (fun c121 => absurd c121 (nI_n4 (by omega))) (fun c121 => ?_)
            refine wq_iload rfl rfl ?_
            refine wq_aload_n rfl rfl ?_
            refine wq_getfield (v := .int (nI lt)) rfl (mS_o hb) rfl ?_
            refine wn_ic_ge rfl (by omega) (by omega) (fun c130 => ?_) (fun c130 => ?_)
            · skip
              refine wq_bipush (v := (-4)) rfl (by decide) ?_
              refine wq_iret rfl trivial ?_
              have hκ : kL (ltr lt tx ap) = 2 := by rw [ltr_in hap]; exact kL_2 c33
              exact kfl (itA_n hκ (fun z => by have q := z.2.2.2; rw [show ap + ilN 2 - 1 = ap + 3 from rfl, ltr_out c130] at q; cases q))
            · skip
              refine wq_aload_n rfl rfl ?_
              refine wq_getfield (v := .ref (b + 1)) rfl (mS_o hb) rfl ?_
              refine wq_iload rfl rfl ?_
              refine wn_baload (g := tx) rfl (mS_a1 hb) (by omega) (by decide) ?_
              have ht3 := htx _ c130
              refine wq_bipush (v := nI 59) rfl (by decide) ?_
              refine wn_ic_eq rfl (by omega) (by omega) (fun c142 => ?_) (fun c142 => ?_)
              · skip
                refine wq_aload_n rfl rfl ?_
                refine wq_iload rfl rfl ?_
                refine wq_iconst (v := nI 1) rfl (by decide) ?_
                refine wn_iadd rfl ?_
                refine wq_putfield (h' := mR b pre tn lt un kp ((ap + 3) + 1) wb tx sq pa ke to wg we th pcs brs be po ro kf bg en) rfl (mS_o hb) rfl (mS_s18 hb) ?_
                refine wq_iload_n rfl rfl ?_
                refine wq_iload_n rfl rfl ?_
                refine wq_iload rfl rfl ?_
                refine wq_stat (a := [.int (nI 2), .int (nI (ltr lt tx (ap + 1) - 48)), .int (nI (ltr lt tx (ap + 2) - 48))]) (rest := []) rfl rfl rfl rfl rfl ?_
                have hκ : kL (ltr lt tx ap) = 2 := by rw [ltr_in hap]; exact kL_2 c33
                have f1 := c69
                unfold figL at f1
                have f2 := c89
                unfold figL at f2
                have hit : itA lt tx ap = some (acN 2 (ltr lt tx (ap + 1) - 48) (ltr lt tx (ap + 2) - 48)) := by
                  rw [itA_y hκ (by decide) c69 (Or.inr c89) (by rw [show ap + ilN 2 - 1 = ap + 3 from rfl, ltr_in c130]; exact c142)]
                  rfl
                have hx9 : ltr lt tx (ap + 1) - 48 < 9 := by omega
                have hy9 : ltr lt tx (ap + 2) - 48 < 9 := by omega
                have hfin := kt _ hit
                rw [acN_cd (by decide) hx9 hy9, acN_k (by decide) hx9 hy9] at hfin
                refine r_M_codeOf (by decide) hx9 hy9 ?_
                show WP _ _ _ _ 163 [.ref b, .int (nI (tx ap)), .int (nI 2), .int (nI (ltr lt tx (ap + 1) - 48)), .int (nI (ltr lt tx (ap + 2) - 48)), .int (nI (ap + 3))] [.int (nI (cdN 2 (ltr lt tx (ap + 1) - 48) (ltr lt tx (ap + 2) - 48)))] (mR b pre tn lt un kp ((ap + 3) + 1) wb tx sq pa ke to wg we th pcs brs be po ro kf bg en)
                refine wq_iret rfl trivial ?_
                exact hfin
              · skip
                refine wq_bipush (v := (-4)) rfl (by decide) ?_
                refine wq_iret rfl trivial ?_
                have hκ : kL (ltr lt tx ap) = 2 := by rw [ltr_in hap]; exact kL_2 c33
                exact kfl (itA_n hκ (fun z => c142 (by have q := z.2.2.2; rw [show ap + ilN 2 - 1 = ap + 3 from rfl, ltr_in c130] at q; exact q)))
          · skip
            show WP _ _ _ _ 92 [.ref b, .int (nI (tx ap)), .int (nI 2), .int (nI (ltr lt tx (ap + 1) - 48)), .long 0, .long 0] [.int ((-4))] (mR b pre tn lt un kp ap wb tx sq pa ke to wg we th pcs brs be po ro kf bg en)
            refine wq_istore (lv' := [.ref b, .int (nI (tx ap)), .int (nI 2), .int (nI (ltr lt tx (ap + 1) - 48)), .int ((-4)), .long 0]) rfl rfl rfl ?_
            refine wq_aload_n rfl rfl ?_
            refine wq_getfield (v := .int (nI ap)) rfl (mS_o hb) rfl ?_
            refine wq_iload_n rfl rfl ?_
            refine wq_iconst (v := nI 2) rfl (by decide) ?_
            refine wq_ic_ge rfl (fun _ => ?_) (fun c => absurd c (by decide))
            refine wq_iconst (v := nI 3) rfl (by decide) ?_
            refine wn_iadd rfl ?_
            refine wq_istore (lv' := [.ref b, .int (nI (tx ap)), .int (nI 2), .int (nI (ltr lt tx (ap + 1) - 48)), .int ((-4)), .int (nI (ap + 3))]) rfl rfl rfl ?_
            refine wq_iload_n rfl rfl ?_
            refine wq_bipush (v := (-4)) rfl (by decide) ?_
            refine wq_ic_eq rfl (fun c114 => absurd c114 (nI_n4 (by omega))) (fun c114 => ?_)
            refine wq_iload rfl rfl ?_
            refine wq_bipush (v := (-4)) rfl (by decide) ?_
            refine wq_ic_eq rfl (fun c121 => ?_) (fun c121 => absurd c121 (fun h => h rfl))
            refine wq_bipush (v := (-4)) rfl (by decide) ?_
            refine wq_iret rfl trivial ?_
            have hκ : kL (ltr lt tx ap) = 2 := by rw [ltr_in hap]; exact kL_2 c33
            exact kfl (itA_n hκ (fun z => c89 (z.2.2.1.resolve_left (by decide))))
        · skip
          show WP _ _ _ _ 72 [.ref b, .int (nI (tx ap)), .int (nI 2), .long 0, .long 0, .long 0] [.int ((-4))] (mR b pre tn lt un kp ap wb tx sq pa ke to wg we th pcs brs be po ro kf bg en)
          refine wq_istore_n (lv' := [.ref b, .int (nI (tx ap)), .int (nI 2), .int ((-4)), .long 0, .long 0]) rfl rfl rfl ?_
          refine wq_iload_n rfl rfl ?_
          refine wq_iconst (v := nI 2) rfl (by decide) ?_
          refine wq_ic_ge rfl (fun _ => ?_) (fun c => absurd c (by decide))
          refine wq_aload_n rfl rfl ?_
          refine wq_aload_n rfl rfl ?_
          refine wq_getfield (v := .int (nI ap)) rfl (mS_o hb) rfl ?_
          refine wq_iconst (v := nI 2) rfl (by decide) ?_
          refine wn_iadd rfl ?_
          refine wq_virt (b := b) (a := [.int (nI (ap + 2))]) (rest := []) rfl rfl rfl rfl rfl (mS_o hb) ?_
          refine r_M_figureAt hb hl htx (by omega) (fun c89 => ?_) (fun c89 => ?_)
          · skip
            show WP _ _ _ _ 92 [.ref b, .int (nI (tx ap)), .int (nI 2), .int ((-4)), .long 0, .long 0] [.int (nI (ltr lt tx (ap + 2) - 48))] (mR b pre tn lt un kp ap wb tx sq pa ke to wg we th pcs brs be po ro kf bg en)
            refine wq_istore (lv' := [.ref b, .int (nI (tx ap)), .int (nI 2), .int ((-4)), .int (nI (ltr lt tx (ap + 2) - 48)), .long 0]) rfl rfl rfl ?_
            refine wq_aload_n rfl rfl ?_
            refine wq_getfield (v := .int (nI ap)) rfl (mS_o hb) rfl ?_
            refine wq_iload_n rfl rfl ?_
            refine wq_iconst (v := nI 2) rfl (by decide) ?_
            refine wq_ic_ge rfl (fun _ => ?_) (fun c => absurd c (by decide))
            refine wq_iconst (v := nI 3) rfl (by decide) ?_
            refine wn_iadd rfl ?_
            refine wq_istore (lv' := [.ref b, .int (nI (tx ap)), .int (nI 2), .int ((-4)), .int (nI (ltr lt tx (ap + 2) - 48)), .int (nI (ap + 3))]) rfl rfl rfl ?_
            refine wq_iload_n rfl rfl ?_
            refine wq_bipush (v := (-4)) rfl (by decide) ?_
            refine wq_ic_eq rfl (fun c114 => ?_) (fun c114 => absurd c114 (fun h => h rfl))
            refine wq_bipush (v := (-4)) rfl (by decide) ?_
            refine wq_iret rfl trivial ?_
            have hκ : kL (ltr lt tx ap) = 2 := by rw [ltr_in hap]; exact kL_2 c33
            exact kfl (itA_n hκ (fun z => c69 z.2.1))
          · skip
            show WP _ _ _ _ 92 [.ref b, .int (nI (tx ap)), .int (nI 2), .int ((-4)), .long 0, .long 0] [.int ((-4))] (mR b pre tn lt un kp ap wb tx sq pa ke to wg we th pcs brs be po ro kf bg en)
            refine wq_istore (lv' := [.ref b, .int (nI (tx ap)), .int (nI 2), .int ((-4)), .int ((-4)), .long 0]) rfl rfl rfl ?_
            refine wq_aload_n rfl rfl ?_
            refine wq_getfield (v := .int (nI ap)) rfl (mS_o hb) rfl ?_
            refine wq_iload_n rfl rfl ?_
            refine wq_iconst (v := nI 2) rfl (by decide) ?_
            refine wq_ic_ge rfl (fun _ => ?_) (fun c => absurd c (by decide))
            refine wq_iconst (v := nI 3) rfl (by decide) ?_
            refine wn_iadd rfl ?_
            refine wq_istore (lv' := [.ref b, .int (nI (tx ap)), .int (nI 2), .int ((-4)), .int ((-4)), .int (nI (ap + 3))]) rfl rfl rfl ?_
            refine wq_iload_n rfl rfl ?_
            refine wq_bipush (v := (-4)) rfl (by decide) ?_
            refine wq_ic_eq rfl (fun c114 => ?_) (fun c114 => absurd c114 (fun h => h rfl))
            refine wq_bipush (v := (-4)) rfl (by decide) ?_
            refine wq_iret rfl trivial ?_
            have hκ : kL (ltr lt tx ap) = 2 := by rw [ltr_in hap]; exact kL_2 c33
            exact kfl (itA_n hκ (fun z => c69 z.2.1))
    · skip
      refine wq_iconst (v := nI 1) rfl (by decide) ?_
      refine wq_goto rfl ?_
      refine wq_istore_n (lv' := [.ref b, .int (nI (tx ap)), .int (nI 1), .long 0, .long 0, .long 0]) rfl rfl rfl ?_
      refine wq_iload_n rfl rfl ?_
      refine wq_bipush (v := (-4)) rfl (by decide) ?_
      refine wq_ic_ne rfl (fun c56 => ?_) (fun c56 => absurd c56 (by decide))
      refine wq_aload_n rfl rfl ?_
      refine wq_aload_n rfl rfl ?_
      refine wq_getfield (v := .int (nI ap)) rfl (mS_o hb) rfl ?_
      refine wq_iconst (v := nI 1) rfl (by decide) ?_
      refine wn_iadd rfl ?_
      refine wq_virt (b := b) (a := [.int (nI (ap + 1))]) (rest := []) rfl rfl rfl rfl rfl (mS_o hb) ?_
      refine r_M_figureAt hb hl htx (by omega) (fun c69 => ?_) (fun c69 => ?_)
      · skip
        show WP _ _ _ _ 72 [.ref b, .int (nI (tx ap)), .int (nI 1), .long 0, .long 0, .long 0] [.int (nI (ltr lt tx (ap + 1) - 48))] (mR b pre tn lt un kp ap wb tx sq pa ke to wg we th pcs brs be po ro kf bg en)
        refine wq_istore_n (lv' := [.ref b, .int (nI (tx ap)), .int (nI 1), .int (nI (ltr lt tx (ap + 1) - 48)), .long 0, .long 0]) rfl rfl rfl ?_
        refine wq_iload_n rfl rfl ?_
        refine wq_iconst (v := nI 2) rfl (by decide) ?_
        refine wq_ic_ge rfl (fun c => absurd c (by decide)) (fun _ => ?_)
        refine wq_iconst (v := nI 0) rfl (by decide) ?_
        refine wq_goto rfl ?_
        refine wq_istore (lv' := [.ref b, .int (nI (tx ap)), .int (nI 1), .int (nI (ltr lt tx (ap + 1) - 48)), .int (nI 0), .long 0]) rfl rfl rfl ?_
        refine wq_aload_n rfl rfl ?_
        refine wq_getfield (v := .int (nI ap)) rfl (mS_o hb) rfl ?_
        refine wq_iload_n rfl rfl ?_
        refine wq_iconst (v := nI 2) rfl (by decide) ?_
        refine wq_ic_ge rfl (fun c => absurd c (by decide)) (fun _ => ?_)
        refine wq_iconst (v := nI 2) rfl (by decide) ?_
        refine wq_goto rfl ?_
        refine wn_iadd rfl ?_
        refine wq_istore (lv' := [.ref b, .int (nI (tx ap)), .int (nI 1), .int (nI (ltr lt tx (ap + 1) - 48)), .int (nI 0), .int (nI (ap + 2))]) rfl rfl rfl ?_
        refine wq_iload_n rfl rfl ?_
        refine wq_bipush (v := (-4)) rfl (by decide) ?_
        refine wq_ic_eq rfl (fun c114 => absurd c114 (nI_n4 (by omega))) (fun c114 => ?_)
        refine wq_iload rfl rfl ?_
        refine wq_bipush (v := (-4)) rfl (by decide) ?_
        refine wq_ic_eq rfl (fun c121 => absurd c121 (by decide)) (fun c121 => ?_)
        refine wq_iload rfl rfl ?_
        refine wq_aload_n rfl rfl ?_
        refine wq_getfield (v := .int (nI lt)) rfl (mS_o hb) rfl ?_
        refine wn_ic_ge rfl (by omega) (by omega) (fun c130 => ?_) (fun c130 => ?_)
        · skip
          refine wq_bipush (v := (-4)) rfl (by decide) ?_
          refine wq_iret rfl trivial ?_
          have hκ : kL (ltr lt tx ap) = 1 := by rw [ltr_in hap]; exact kL_1 c23
          exact kfl (itA_n hκ (fun z => by have q := z.2.2.2; rw [show ap + ilN 1 - 1 = ap + 2 from rfl, ltr_out c130] at q; cases q))
        · skip
          refine wq_aload_n rfl rfl ?_
          refine wq_getfield (v := .ref (b + 1)) rfl (mS_o hb) rfl ?_
          refine wq_iload rfl rfl ?_
          refine wn_baload (g := tx) rfl (mS_a1 hb) (by omega) (by decide) ?_
          have ht3 := htx _ c130
          refine wq_bipush (v := nI 59) rfl (by decide) ?_
          refine wn_ic_eq rfl (by omega) (by omega) (fun c142 => ?_) (fun c142 => ?_)
          · skip
            refine wq_aload_n rfl rfl ?_
            refine wq_iload rfl rfl ?_
            refine wq_iconst (v := nI 1) rfl (by decide) ?_
            refine wn_iadd rfl ?_
            refine wq_putfield (h' := mR b pre tn lt un kp ((ap + 2) + 1) wb tx sq pa ke to wg we th pcs brs be po ro kf bg en) rfl (mS_o hb) rfl (mS_s18 hb) ?_
            refine wq_iload_n rfl rfl ?_
            refine wq_iload_n rfl rfl ?_
            refine wq_iload rfl rfl ?_
            refine wq_stat (a := [.int (nI 1), .int (nI (ltr lt tx (ap + 1) - 48)), .int (nI 0)]) (rest := []) rfl rfl rfl rfl rfl ?_
            have hκ : kL (ltr lt tx ap) = 1 := by rw [ltr_in hap]; exact kL_1 c23
            have f1 := c69
            unfold figL at f1
            have hit : itA lt tx ap = some (acN 1 (ltr lt tx (ap + 1) - 48) (0)) := by
              rw [itA_y hκ (by decide) c69 (Or.inl (by decide)) (by rw [show ap + ilN 1 - 1 = ap + 2 from rfl, ltr_in c130]; exact c142)]
              rfl
            have hx9 : ltr lt tx (ap + 1) - 48 < 9 := by omega
            have hy9 : 0 < 9 := by omega
            have hfin := kt _ hit
            rw [acN_cd (by decide) hx9 hy9, acN_k (by decide) hx9 hy9] at hfin
            refine r_M_codeOf (by decide) hx9 hy9 ?_
            show WP _ _ _ _ 163 [.ref b, .int (nI (tx ap)), .int (nI 1), .int (nI (ltr lt tx (ap + 1) - 48)), .int (nI 0), .int (nI (ap + 2))] [.int (nI (cdN 1 (ltr lt tx (ap + 1) - 48) (0)))] (mR b pre tn lt un kp ((ap + 2) + 1) wb tx sq pa ke to wg we th pcs brs be po ro kf bg en)
            refine wq_iret rfl trivial ?_
            exact hfin
          · skip
            refine wq_bipush (v := (-4)) rfl (by decide) ?_
            refine wq_iret rfl trivial ?_
            have hκ : kL (ltr lt tx ap) = 1 := by rw [ltr_in hap]; exact kL_1 c23
            exact kfl (itA_n hκ (fun z => c142 (by have q := z.2.2.2; rw [show ap + ilN 1 - 1 = ap + 2 from rfl, ltr_in c130] at q; exact q)))
      · skip
        show WP _ _ _ _ 72 [.ref b, .int (nI (tx ap)), .int (nI 1), .long 0, .long 0, .long 0] [.int ((-4))] (mR b pre tn lt un kp ap wb tx sq pa ke to wg we th pcs brs be po ro kf bg en)
        refine wq_istore_n (lv' := [.ref b, .int (nI (tx ap)), .int (nI 1), .int ((-4)), .long 0, .long 0]) rfl rfl rfl ?_
        refine wq_iload_n rfl rfl ?_
        refine wq_iconst (v := nI 2) rfl (by decide) ?_
        refine wq_ic_ge rfl (fun c => absurd c (by decide)) (fun _ => ?_)
        refine wq_iconst (v := nI 0) rfl (by decide) ?_
        refine wq_goto rfl ?_
        refine wq_istore (lv' := [.ref b, .int (nI (tx ap)), .int (nI 1), .int ((-4)), .int (nI 0), .long 0]) rfl rfl rfl ?_
        refine wq_aload_n rfl rfl ?_
        refine wq_getfield (v := .int (nI ap)) rfl (mS_o hb) rfl ?_
        refine wq_iload_n rfl rfl ?_
        refine wq_iconst (v := nI 2) rfl (by decide) ?_
        refine wq_ic_ge rfl (fun c => absurd c (by decide)) (fun _ => ?_)
        refine wq_iconst (v := nI 2) rfl (by decide) ?_
        refine wq_goto rfl ?_
        refine wn_iadd rfl ?_
        refine wq_istore (lv' := [.ref b, .int (nI (tx ap)), .int (nI 1), .int ((-4)), .int (nI 0), .int (nI (ap + 2))]) rfl rfl rfl ?_
        refine wq_iload_n rfl rfl ?_
        refine wq_bipush (v := (-4)) rfl (by decide) ?_
        refine wq_ic_eq rfl (fun c114 => ?_) (fun c114 => absurd c114 (fun h => h rfl))
        refine wq_bipush (v := (-4)) rfl (by decide) ?_
        refine wq_iret rfl trivial ?_
        have hκ : kL (ltr lt tx ap) = 1 := by rw [ltr_in hap]; exact kL_1 c23
        exact kfl (itA_n hκ (fun z => c69 z.2.1))
  · skip
    refine wq_iconst (v := nI 0) rfl (by decide) ?_
    refine wq_goto rfl ?_
    refine wq_istore_n (lv' := [.ref b, .int (nI (tx ap)), .int (nI 0), .long 0, .long 0, .long 0]) rfl rfl rfl ?_
    refine wq_iload_n rfl rfl ?_
    refine wq_bipush (v := (-4)) rfl (by decide) ?_
    refine wq_ic_ne rfl (fun c56 => ?_) (fun c56 => absurd c56 (by decide))
    refine wq_aload_n rfl rfl ?_
    refine wq_aload_n rfl rfl ?_
    refine wq_getfield (v := .int (nI ap)) rfl (mS_o hb) rfl ?_
    refine wq_iconst (v := nI 1) rfl (by decide) ?_
    refine wn_iadd rfl ?_
    refine wq_virt (b := b) (a := [.int (nI (ap + 1))]) (rest := []) rfl rfl rfl rfl rfl (mS_o hb) ?_
    refine r_M_figureAt hb hl htx (by omega) (fun c69 => ?_) (fun c69 => ?_)
    · skip
      show WP _ _ _ _ 72 [.ref b, .int (nI (tx ap)), .int (nI 0), .long 0, .long 0, .long 0] [.int (nI (ltr lt tx (ap + 1) - 48))] (mR b pre tn lt un kp ap wb tx sq pa ke to wg we th pcs brs be po ro kf bg en)
      refine wq_istore_n (lv' := [.ref b, .int (nI (tx ap)), .int (nI 0), .int (nI (ltr lt tx (ap + 1) - 48)), .long 0, .long 0]) rfl rfl rfl ?_
      refine wq_iload_n rfl rfl ?_
      refine wq_iconst (v := nI 2) rfl (by decide) ?_
      refine wq_ic_ge rfl (fun c => absurd c (by decide)) (fun _ => ?_)
      refine wq_iconst (v := nI 0) rfl (by decide) ?_
      refine wq_goto rfl ?_
      refine wq_istore (lv' := [.ref b, .int (nI (tx ap)), .int (nI 0), .int (nI (ltr lt tx (ap + 1) - 48)), .int (nI 0), .long 0]) rfl rfl rfl ?_
      refine wq_aload_n rfl rfl ?_
      refine wq_getfield (v := .int (nI ap)) rfl (mS_o hb) rfl ?_
      refine wq_iload_n rfl rfl ?_
      refine wq_iconst (v := nI 2) rfl (by decide) ?_
      refine wq_ic_ge rfl (fun c => absurd c (by decide)) (fun _ => ?_)
      refine wq_iconst (v := nI 2) rfl (by decide) ?_
      refine wq_goto rfl ?_
      refine wn_iadd rfl ?_
      refine wq_istore (lv' := [.ref b, .int (nI (tx ap)), .int (nI 0), .int (nI (ltr lt tx (ap + 1) - 48)), .int (nI 0), .int (nI (ap + 2))]) rfl rfl rfl ?_
      refine wq_iload_n rfl rfl ?_
      refine wq_bipush (v := (-4)) rfl (by decide) ?_
      refine wq_ic_eq rfl (fun c114 => absurd c114 (nI_n4 (by omega))) (fun c114 => ?_)
      refine wq_iload rfl rfl ?_
      refine wq_bipush (v := (-4)) rfl (by decide) ?_
      refine wq_ic_eq rfl (fun c121 => absurd c121 (by decide)) (fun c121 => ?_)
      refine wq_iload rfl rfl ?_
      refine wq_aload_n rfl rfl ?_
      refine wq_getfield (v := .int (nI lt)) rfl (mS_o hb) rfl ?_
      refine wn_ic_ge rfl (by omega) (by omega) (fun c130 => ?_) (fun c130 => ?_)
      · skip
        refine wq_bipush (v := (-4)) rfl (by decide) ?_
        refine wq_iret rfl trivial ?_
        have hκ : kL (ltr lt tx ap) = 0 := by rw [ltr_in hap]; exact kL_0 c13
        exact kfl (itA_n hκ (fun z => by have q := z.2.2.2; rw [show ap + ilN 0 - 1 = ap + 2 from rfl, ltr_out c130] at q; cases q))
      · skip
        refine wq_aload_n rfl rfl ?_
        refine wq_getfield (v := .ref (b + 1)) rfl (mS_o hb) rfl ?_
        refine wq_iload rfl rfl ?_
        refine wn_baload (g := tx) rfl (mS_a1 hb) (by omega) (by decide) ?_
        have ht3 := htx _ c130
        refine wq_bipush (v := nI 59) rfl (by decide) ?_
        refine wn_ic_eq rfl (by omega) (by omega) (fun c142 => ?_) (fun c142 => ?_)
        · skip
          refine wq_aload_n rfl rfl ?_
          refine wq_iload rfl rfl ?_
          refine wq_iconst (v := nI 1) rfl (by decide) ?_
          refine wn_iadd rfl ?_
          refine wq_putfield (h' := mR b pre tn lt un kp ((ap + 2) + 1) wb tx sq pa ke to wg we th pcs brs be po ro kf bg en) rfl (mS_o hb) rfl (mS_s18 hb) ?_
          refine wq_iload_n rfl rfl ?_
          refine wq_iload_n rfl rfl ?_
          refine wq_iload rfl rfl ?_
          refine wq_stat (a := [.int (nI 0), .int (nI (ltr lt tx (ap + 1) - 48)), .int (nI 0)]) (rest := []) rfl rfl rfl rfl rfl ?_
          have hκ : kL (ltr lt tx ap) = 0 := by rw [ltr_in hap]; exact kL_0 c13
          have f1 := c69
          unfold figL at f1
          have hit : itA lt tx ap = some (acN 0 (ltr lt tx (ap + 1) - 48) (0)) := by
            rw [itA_y hκ (by decide) c69 (Or.inl (by decide)) (by rw [show ap + ilN 0 - 1 = ap + 2 from rfl, ltr_in c130]; exact c142)]
            rfl
          have hx9 : ltr lt tx (ap + 1) - 48 < 9 := by omega
          have hy9 : 0 < 9 := by omega
          have hfin := kt _ hit
          rw [acN_cd (by decide) hx9 hy9, acN_k (by decide) hx9 hy9] at hfin
          refine r_M_codeOf (by decide) hx9 hy9 ?_
          show WP _ _ _ _ 163 [.ref b, .int (nI (tx ap)), .int (nI 0), .int (nI (ltr lt tx (ap + 1) - 48)), .int (nI 0), .int (nI (ap + 2))] [.int (nI (cdN 0 (ltr lt tx (ap + 1) - 48) (0)))] (mR b pre tn lt un kp ((ap + 2) + 1) wb tx sq pa ke to wg we th pcs brs be po ro kf bg en)
          refine wq_iret rfl trivial ?_
          exact hfin
        · skip
          refine wq_bipush (v := (-4)) rfl (by decide) ?_
          refine wq_iret rfl trivial ?_
          have hκ : kL (ltr lt tx ap) = 0 := by rw [ltr_in hap]; exact kL_0 c13
          exact kfl (itA_n hκ (fun z => c142 (by have q := z.2.2.2; rw [show ap + ilN 0 - 1 = ap + 2 from rfl, ltr_in c130] at q; exact q)))
    · skip
      show WP _ _ _ _ 72 [.ref b, .int (nI (tx ap)), .int (nI 0), .long 0, .long 0, .long 0] [.int ((-4))] (mR b pre tn lt un kp ap wb tx sq pa ke to wg we th pcs brs be po ro kf bg en)
      refine wq_istore_n (lv' := [.ref b, .int (nI (tx ap)), .int (nI 0), .int ((-4)), .long 0, .long 0]) rfl rfl rfl ?_
      refine wq_iload_n rfl rfl ?_
      refine wq_iconst (v := nI 2) rfl (by decide) ?_
      refine wq_ic_ge rfl (fun c => absurd c (by decide)) (fun _ => ?_)
      refine wq_iconst (v := nI 0) rfl (by decide) ?_
      refine wq_goto rfl ?_
      refine wq_istore (lv' := [.ref b, .int (nI (tx ap)), .int (nI 0), .int ((-4)), .int (nI 0), .long 0]) rfl rfl rfl ?_
      refine wq_aload_n rfl rfl ?_
      refine wq_getfield (v := .int (nI ap)) rfl (mS_o hb) rfl ?_
      refine wq_iload_n rfl rfl ?_
      refine wq_iconst (v := nI 2) rfl (by decide) ?_
      refine wq_ic_ge rfl (fun c => absurd c (by decide)) (fun _ => ?_)
      refine wq_iconst (v := nI 2) rfl (by decide) ?_
      refine wq_goto rfl ?_
      refine wn_iadd rfl ?_
      refine wq_istore (lv' := [.ref b, .int (nI (tx ap)), .int (nI 0), .int ((-4)), .int (nI 0), .int (nI (ap + 2))]) rfl rfl rfl ?_
      refine wq_iload_n rfl rfl ?_
      refine wq_bipush (v := (-4)) rfl (by decide) ?_
      refine wq_ic_eq rfl (fun c114 => ?_) (fun c114 => absurd c114 (fun h => h rfl))
      refine wq_bipush (v := (-4)) rfl (by decide) ?_
      refine wq_iret rfl trivial ?_
      have hκ : kL (ltr lt tx ap) = 0 := by rw [ltr_in hap]; exact kL_0 c13
      exact kfl (itA_n hκ (fun z => c69 z.2.1))
theorem stR_congr {ra rb : Nat → Nat} : ∀ k, (∀ i, i < k → ra i = rb i) → stR ra k = stR rb k
  | 0, _ => rfl
  | k + 1, h => by
    unfold stR
    rw [stR_congr k (fun i hi => h i (by omega)), h k (Nat.lt_succ_self k)]
theorem okR_congr {ra rb : Nat → Nat} {k : Nat} (h : ∀ i, i < k → ra i = rb i) : okR ra k ↔ okR rb k := by
  constructor
  · intro z i hi
    rw [← stR_congr i (fun j hj => h j (by omega)), ← h i hi]
    exact z i hi
  · intro z i hi
    rw [stR_congr i (fun j hj => h j (by omega)), h i hi]
    exact z i hi
/-- the text is read, k items before the place p: the place of the fault, and the row -/
noncomputable def rdg (tl : Nat) (ta : Nat → Nat) : Nat → Nat → Nat → (Nat → Nat) → Option Nat × Nat × (Nat → Nat)
  | 0, k, _, ra => (none, k, ra)
  | t + 1, k, p, ra => if p < tl then
      (match itA tl ta p with
       | none => (some p, k, ra)
       | some ac => if k < 40 ∧ mayT (stR ra k) ac = true then rdg tl ta t (k + 1) (p + ilN (ac >>> 8)) (uN' ra k ac) else (some p, k, ra))
    else (none, k, ra)
theorem rdg_end {tl t k p : Nat} {ta ra : Nat → Nat} (h : tl ≤ p) : rdg tl ta (t + 1) k p ra = (none, k, ra) := by
  unfold rdg
  rw [if_neg (by omega)]
theorem rdg_bad {tl t k p : Nat} {ta ra : Nat → Nat} (h : p < tl) (h2 : itA tl ta p = none) : rdg tl ta (t + 1) k p ra = (some p, k, ra) := by
  unfold rdg
  rw [if_pos h, h2]
theorem rdg_no {tl t k p ac : Nat} {ta ra : Nat → Nat} (h : p < tl) (h2 : itA tl ta p = some ac) (h3 : ¬ (k < 40 ∧ mayT (stR ra k) ac = true)) : rdg tl ta (t + 1) k p ra = (some p, k, ra) := by
  unfold rdg
  rw [if_pos h, h2]
  dsimp only
  rw [if_neg h3]
theorem rdg_go {tl t k p ac : Nat} {ta ra : Nat → Nat} (h : p < tl) (h2 : itA tl ta p = some ac) (h3 : k < 40 ∧ mayT (stR ra k) ac = true) : rdg tl ta (t + 1) k p ra = rdg tl ta t (k + 1) (p + ilN (ac >>> 8)) (uN' ra k ac) := by
  conv => lhs; unfold rdg
  rw [if_pos h, h2]
  dsimp only
  rw [if_pos h3]
/-- a row whose acts can all be done -/
def RV (r : Nat × (Nat → Nat)) : Prop := r.1 ≤ 40 ∧ (∀ i, i < r.1 → AV (r.2 i)) ∧ okR r.2 r.1
theorem RV_add {k ac : Nat} {ra : Nat → Nat} (h : RV (k, ra)) (hk : k < 40) (ha : AV ac) (hm : mayT (stR ra k) ac = true) : RV (k + 1, uN' ra k ac) := by
  obtain ⟨h1, h2, h3⟩ := h
  dsimp only at h1 h2 h3
  refine ⟨hk, fun i hi => ?_, fun i hi => ?_⟩
  · dsimp only at hi ⊢
    by_cases e : i = k
    · subst e; rw [uN_s]; exact ha
    · rw [uN_n e]; exact h2 i (by omega)
  · dsimp only at hi ⊢
    rw [stR_congr (rb := ra) i (fun j hj => uN_n (by omega))]
    by_cases e : i = k
    · subst e; rw [uN_s]; exact hm
    · rw [uN_n e]; exact h3 i (by omega)
theorem RV_rdg {tl : Nat} {ta : Nat → Nat} : ∀ t k p ra, RV (k, ra) → RV (rdg tl ta t k p ra).2
  | 0, _, _, _, h => h
  | t + 1, k, p, ra, h => by
    by_cases e : p < tl
    · cases q : itA tl ta p with
      | none => rw [rdg_bad e q]; exact h
      | some ac =>
        by_cases z : k < 40 ∧ mayT (stR ra k) ac = true
        · rw [rdg_go e q z]
          exact RV_rdg t _ _ _ (RV_add h z.1 (itA_some q).1 z.2)
        · rw [rdg_no e q z]; exact h
    · rw [rdg_end (by omega)]; exact h
/-- what was there before doesn't matter -/
theorem rdg_congr {tl : Nat} {ta : Nat → Nat} : ∀ t k p ra rb, (∀ i, i < k → ra i = rb i) → (rdg tl ta t k p ra).1 = (rdg tl ta t k p rb).1 ∧ (rdg tl ta t k p ra).2.1 = (rdg tl ta t k p rb).2.1 ∧ ∀ i, i < (rdg tl ta t k p ra).2.1 → (rdg tl ta t k p ra).2.2 i = (rdg tl ta t k p rb).2.2 i
  | 0, _, _, _, _, h => ⟨rfl, rfl, h⟩
  | t + 1, k, p, ra, rb, h => by
    have es := stR_congr k h
    by_cases e : p < tl
    · cases q : itA tl ta p with
      | none => rw [rdg_bad e q, rdg_bad e q]; exact ⟨rfl, rfl, h⟩
      | some ac =>
        by_cases z : k < 40 ∧ mayT (stR ra k) ac = true
        · rw [rdg_go e q z, rdg_go e q (by rw [← es]; exact z)]
          refine rdg_congr t (k + 1) _ _ _ (fun i hi => ?_)
          by_cases y : i = k
          · subst y; rw [uN_s, uN_s]
          · rw [uN_n y, uN_n y]; exact h i (by omega)
        · rw [rdg_no e q z, rdg_no e q (by rw [← es]; exact z)]; exact ⟨rfl, rfl, h⟩
    · rw [rdg_end (by omega), rdg_end (by omega)]; exact ⟨rfl, rfl, h⟩
/-- the reference holds the row -/
def RR (sq : Nat → Nat) (r : Nat × (Nat → Nat)) : Prop := sq 0 = r.1 ∧ ∀ i, i < r.1 → sq (i + 1) = cdA (r.2 i)
/-- roots and kin are small -/
def SB (ro : Nat → Nat) (kf : Nat → Nat → Nat) : Prop := (∀ p, p < 9 → ro p < 1000) ∧ ∀ p q, p < 9 → q < 9 → kf p q < 1000
/-- what a fault's place is answered -/
def opI (x : Option Nat) : Int32 := match x with
  | none => (-4)
  | some p => nI p
theorem l_M_reads {d b : Nat} {pre : mH} {tn : Nat} {lt : Nat} {un : Nat} {kp : Nat} {wb : Nat} {tx : Nat → Nat} {sq : Nat → Nat} {pa : Nat → Nat} {ke : Nat → Nat} {wg : Nat → Nat} {we : Nat → Nat} {Q : Option Value → mH → Prop} (hb : pre.length = b) (hl : lt ≤ 200) (htx : ∀ i, i < lt → tx i < 127) {ra0 : Nat → Nat} (hQ : ∀ ap' to' th' pcs' brs' be' po' ro' kf' bg' en', RR to' (rdg lt tx 41 0 0 ra0).2 → SB ro' kf' → Q (some (.int (opI (rdg lt tx 41 0 0 ra0).1))) (mR b pre tn lt un kp ap' wb tx sq pa ke to' wg we th' pcs' brs' be' po' ro' kf' bg' en')) : ∀ (t k ap : Nat) (to ra : Nat → Nat) (th : Nat) (pcs : Nat) (brs : Nat) (be : Nat → Nat) (po : Nat → Nat) (ro : Nat → Nat) (kf : Nat → Nat → Nat) (bg : Nat → Nat) (en : Nat → Nat) (v1 v2 : Value), k + t = 41 → ap ≤ 300 → RV (k, ra) → RR to (k, ra) → Sim (stR ra k) k th pcs brs be po ro kf bg en → rdg lt tx t k ap ra = rdg lt tx 41 0 0 ra0 → WP (Rn mprog (d + 4)) k_M_reads (some .int) Q 16 [.ref b, v1, v2] [] (mR b pre tn lt un kp ap wb tx sq pa ke to wg we th pcs brs be po ro kf bg en) := by
  intro t
  induction t with
  | zero =>
    intro k ap to ra th pcs brs be po ro kf bg en v1 v2 hkt hap3 hRV
    have := hRV.1
    dsimp only at this
    omega
  | succ t ih =>
    intro k ap to ra th pcs brs be po ro kf bg en v1 v2 hkt hap3 hRV hRR hS hrd
    have hTV := TV_run k hRV.2.1 hRV.2.2
    have hk40 := hRV.1
    have hto0 := hRR.1
    have hSB : SB ro kf := ⟨hS.2.2.2.2.2.2.2.1, hS.2.2.2.2.2.2.2.2⟩
    dsimp only at hk40 hto0
    rcases Nat.lt_or_ge ap lt with hap | hap
    · skip
      refine wq_aload_n rfl rfl ?_
      refine wq_getfield (v := .int (nI ap)) rfl (mS_o hb) rfl ?_
      refine wq_aload_n rfl rfl ?_
      refine wq_getfield (v := .int (nI lt)) rfl (mS_o hb) rfl ?_
      refine wn_ic_ge rfl (by omega) (by omega) (fun c24 => absurd c24 (by omega)) (fun c24 => ?_)
      refine wq_aload_n rfl rfl ?_
      refine wq_getfield (v := .int (nI ap)) rfl (mS_o hb) rfl ?_
      refine wq_istore_n (lv' := [.ref b, .int (nI ap), v2]) rfl rfl rfl ?_
      refine wq_aload_n rfl rfl ?_
      refine wq_virt (b := b) (a := []) (rest := []) rfl rfl rfl rfl rfl (mS_o hb) ?_
      refine r_M_item hb hl htx c24 (fun ac hit => ?_) (fun hit => ?_)
      · skip
        show WP _ _ _ _ 36 [.ref b, .int (nI ap), v2] [.int (nI (cdA ac))] (mR b pre tn lt un kp (ap + ilN (ac >>> 8)) wb tx sq pa ke to wg we th pcs brs be po ro kf bg en)
        obtain ⟨hav, hk8, -⟩ := itA_some hit
        obtain ⟨c1, c2, c3, c4, c5⟩ := cdA_f hav
        have hmc := mayT_cd hav hS.1 hS.2.1
        have hmc2 := mayT_cd (τ := stR ra k) hav rfl (fun _ _ => rfl)
        have hth : th < 512 := by rw [hS.1]; exact hTV.1.1
        have hbe : ∀ p, p < 9 → be p < 512 := fun p hp => by rw [hS.2.1 p hp]; exact hTV.1.2.1.1 p hp
        have h1 : cdA ac / 10 % 10 < 9 := by rw [← c3]; exact hav.2.1
        refine wq_istore_n (lv' := [.ref b, .int (nI ap), .int (nI (cdA ac))]) rfl rfl rfl ?_
        refine wq_iload_n rfl rfl ?_
        refine wq_bipush (v := (-4)) rfl (by decide) ?_
        refine wq_ic_eq rfl (fun c40 => absurd c40 (nI_n4 (by omega))) (fun c40 => ?_)
        refine wq_aload_n rfl rfl ?_
        refine wq_getfield (v := .ref (b + 11)) rfl (mS_o hb) rfl ?_
        refine wq_iconst (v := nI 0) rfl (by decide) ?_
        refine wn_iaload (g := to) rfl (mS_a17 hb) (by omega) (by decide) ?_
        refine wq_bipush (v := nI 40) rfl (by decide) ?_
        refine wn_ic_eq rfl (by omega) (by omega) (fun c51 => ?_) (fun c51 => ?_)
        · skip
          refine wq_iload_n rfl rfl ?_
          refine wq_iret rfl trivial ?_
          have hre := rdg_no (t := t) (k := k) (ra := ra) hap hit (fun z => by omega)
          rw [hrd] at hre
          have q := hQ (ap + ilN (ac >>> 8)) to th pcs brs be po ro kf bg en
          rw [hre] at q
          exact q hRR hSB
        · skip
          refine wq_aload_n rfl rfl ?_
          refine wq_iload_n rfl rfl ?_
          refine wq_virt (b := b) (a := [.int (nI (cdA ac))]) (rest := []) rfl rfl rfl rfl rfl (mS_o hb) ?_
          refine r_S_may hb c1 h1 c5 hth hbe (fun c56 => ?_) (fun c56 => ?_)
          · skip
            show WP _ _ _ _ 59 [.ref b, .int (nI ap), .int (nI (cdA ac))] [.int (nI 1)] (mR b pre tn lt un kp (ap + ilN (ac >>> 8)) wb tx sq pa ke to wg we th pcs brs be po ro kf bg en)
            refine wq_if_ne rfl (fun _ => ?_) (fun c => absurd c (by decide))
            refine wq_aload_n rfl rfl ?_
            refine wq_getfield (v := .ref (b + 11)) rfl (mS_o hb) rfl ?_
            refine wq_iconst (v := nI 0) rfl (by decide) ?_
            refine wq_dup2 rfl rfl rfl ?_
            refine wn_iaload (g := to) rfl (mS_a17 hb) (by omega) (by decide) ?_
            refine wq_iconst (v := nI 1) rfl (by decide) ?_
            refine wn_iadd rfl ?_
            refine wn_iastore (g := to) (h' := mR b pre tn lt un kp (ap + ilN (ac >>> 8)) wb tx sq pa ke (uN' to 0 ((to 0) + 1)) wg we th pcs brs be po ro kf bg en) rfl (mS_a17 hb) (by omega) (by decide) (mS_t17 hb) ?_
            refine wq_aload_n rfl rfl ?_
            refine wq_getfield (v := .ref (b + 11)) rfl (mS_o hb) rfl ?_
            refine wq_aload_n rfl rfl ?_
            refine wq_getfield (v := .ref (b + 11)) rfl (mS_o hb) rfl ?_
            refine wq_iconst (v := nI 0) rfl (by decide) ?_
            refine wn_iaload (g := (uN' to 0 ((to 0) + 1))) rfl (mS_a17 hb) (by omega) (by decide) ?_
            refine wq_iload_n rfl rfl ?_
            refine wn_iastore (g := (uN' to 0 ((to 0) + 1))) (h' := mR b pre tn lt un kp (ap + ilN (ac >>> 8)) wb tx sq pa ke (uN' ((uN' to 0 ((to 0) + 1))) (((uN' to 0 ((to 0) + 1))) 0) (cdA ac)) wg we th pcs brs be po ro kf bg en) rfl (mS_a17 hb) (by rw [uN_s]; omega) (by decide) (mS_t17 hb) ?_
            refine wq_aload_n rfl rfl ?_
            refine wq_iload_n rfl rfl ?_
            refine wq_aload_n rfl rfl ?_
            refine wq_getfield (v := .ref (b + 11)) rfl (mS_o hb) rfl ?_
            refine wq_iconst (v := nI 0) rfl (by decide) ?_
            refine wn_iaload (g := (uN' ((uN' to 0 ((to 0) + 1))) (((uN' to 0 ((to 0) + 1))) 0) (cdA ac))) rfl (mS_a17 hb) (by omega) (by decide) ?_
            refine wq_virt (b := b) (a := [.int (nI (cdA ac)), .int (nI (((uN' ((uN' to 0 ((to 0) + 1))) (((uN' to 0 ((to 0) + 1))) 0) (cdA ac))) 0))]) (rest := []) rfl rfl rfl rfl rfl (mS_o hb) ?_
            have ek : uN' (uN' to 0 (to 0 + 1)) (uN' to 0 (to 0 + 1) 0) (cdA ac) 0 = k + 1 := by rw [uN_s, uN_n (by omega), uN_s, hto0]
            rw [ek]
            refine r_S_does hb hTV (by omega) c1 c2 c3 c4 h1 c5 (by rw [hmc2, ← hmc]; exact c56) hS ?_
            intro th2 pcs2 brs2 be2 po2 ro2 kf2 bg2 en2 hS2
            show WP _ _ _ _ 97 [.ref b, .int (nI ap), .int (nI (cdA ac))] [] (mR b pre tn lt un kp (ap + ilN (ac >>> 8)) wb tx sq pa ke (uN' ((uN' to 0 ((to 0) + 1))) (((uN' to 0 ((to 0) + 1))) 0) (cdA ac)) wg we th2 pcs2 brs2 be2 po2 ro2 kf2 bg2 en2)
            refine wq_goto rfl ?_
            have hk4 : k < 40 := by omega
            have hmt : mayT (stR ra k) ac = true := by rw [← hmc]; exact c56
            have hge := rdg_go (t := t) (ra := ra) hap hit ⟨hk4, hmt⟩
            rw [hrd] at hge
            have hst : stR (uN' ra k ac) (k + 1) = tS ac (k + 1) (stR ra k) := by
              show tS (uN' ra k ac k) (k + 1) (stR (uN' ra k ac) k) = _
              rw [uN_s, stR_congr (rb := ra) k (fun j hj => uN_n (by omega))]
            refine ih (k + 1) _ _ (uN' ra k ac) _ _ _ _ _ _ _ _ _ _ _ (by omega) (by have : ilN (ac >>> 8) ≤ 4 := by { unfold ilN; split <;> omega }; omega) (RV_add hRV hk4 hav hmt) ⟨?_, fun i hi => ?_⟩ (by rw [hst]; exact hS2) hge.symm
            · show uN' (uN' to 0 (to 0 + 1)) (uN' to 0 (to 0 + 1) 0) (cdA ac) 0 = k + 1
              rw [uN_s, uN_n (by omega), uN_s, hto0]
            · dsimp only at hi
              show uN' (uN' to 0 (to 0 + 1)) (uN' to 0 (to 0 + 1) 0) (cdA ac) (i + 1) = cdA (uN' ra k ac i)
              rw [uN_s, hto0]
              by_cases e : i = k
              · subst e
                rw [uN_s, uN_s]
              · rw [uN_n (by omega), uN_n (by omega), uN_n e]
                exact hRR.2 i (by show i < k; omega)
          · skip
            show WP _ _ _ _ 59 [.ref b, .int (nI ap), .int (nI (cdA ac))] [.int (nI 0)] (mR b pre tn lt un kp (ap + ilN (ac >>> 8)) wb tx sq pa ke to wg we th pcs brs be po ro kf bg en)
            refine wq_if_ne rfl (fun c => absurd c (by decide)) (fun _ => ?_)
            refine wq_iload_n rfl rfl ?_
            refine wq_iret rfl trivial ?_
            have hre := rdg_no (t := t) (k := k) (ra := ra) hap hit (fun z => by rw [← hmc, c56] at z; exact absurd z.2 (by decide))
            rw [hrd] at hre
            have q := hQ (ap + ilN (ac >>> 8)) to th pcs brs be po ro kf bg en
            rw [hre] at q
            exact q hRR hSB
      · skip
        show WP _ _ _ _ 36 [.ref b, .int (nI ap), v2] [.int ((-4))] (mR b pre tn lt un kp ap wb tx sq pa ke to wg we th pcs brs be po ro kf bg en)
        refine wq_istore_n (lv' := [.ref b, .int (nI ap), .int ((-4))]) rfl rfl rfl ?_
        refine wq_iload_n rfl rfl ?_
        refine wq_bipush (v := (-4)) rfl (by decide) ?_
        refine wq_ic_eq rfl (fun c40 => ?_) (fun c40 => absurd c40 (fun h => h rfl))
        refine wq_iload_n rfl rfl ?_
        refine wq_iret rfl trivial ?_
        have hre := rdg_bad (t := t) (k := k) (ra := ra) hap hit
        rw [hrd] at hre
        have q := hQ ap to th pcs brs be po ro kf bg en
        rw [hre] at q
        exact q hRR hSB
    · have hre := rdg_end (ta := tx) (t := t) (k := k) (ra := ra) hap
      rw [hrd] at hre
      have q := hQ ap to th pcs brs be po ro kf bg en
      rw [hre] at q
      have q2 := q hRR hSB
      refine wq_aload_n rfl rfl ?_
      refine wq_getfield (v := .int (nI ap)) rfl (mS_o hb) rfl ?_
      refine wq_aload_n rfl rfl ?_
      refine wq_getfield (v := .int (nI lt)) rfl (mS_o hb) rfl ?_
      refine wn_ic_ge rfl (by omega) (by omega) (fun c24 => ?_) (fun c24 => absurd c24 (by omega))
      refine wq_bipush (v := (-4)) rfl (by decide) ?_
      refine wq_iret rfl trivial ?_
      exact q2
theorem r_M_reads {d b : Nat} {pre : mH} {tn : Nat} {lt : Nat} {un : Nat} {kp : Nat} {ap : Nat} {wb : Nat} {tx : Nat → Nat} {sq : Nat → Nat} {pa : Nat → Nat} {ke : Nat → Nat} {to : Nat → Nat} {wg : Nat → Nat} {we : Nat → Nat} {th : Nat} {pcs : Nat} {brs : Nat} {be : Nat → Nat} {po : Nat → Nat} {ro : Nat → Nat} {kf : Nat → Nat → Nat} {bg : Nat → Nat} {en : Nat → Nat} {Q : Option Value → mH → Prop} (hb : pre.length = b) (hl : lt ≤ 200) (htx : ∀ i, i < lt → tx i < 127) (hSB : SB ro kf) (ra0 : Nat → Nat) (hQ : ∀ ap' to' th' pcs' brs' be' po' ro' kf' bg' en', RR to' (rdg lt tx 41 0 0 ra0).2 → SB ro' kf' → Q (some (.int (opI (rdg lt tx 41 0 0 ra0).1))) (mR b pre tn lt un kp ap' wb tx sq pa ke to' wg we th' pcs' brs' be' po' ro' kf' bg' en')) : Rn mprog (d + 5) n_M_reads [.ref b] (mR b pre tn lt un kp ap wb tx sq pa ke to wg we th pcs brs be po ro kf bg en) Q := by
  refine Rn.in rfl rfl rfl ?_
  show WP _ _ _ _ 0 [.ref b, .long 0, .long 0] [] (mR b pre tn lt un kp ap wb tx sq pa ke to wg we th pcs brs be po ro kf bg en)
  refine wq_aload_n rfl rfl ?_
  refine wq_virt (b := b) (a := []) (rest := []) rfl rfl rfl rfl rfl (mS_o hb) ?_
  refine r_S_begins hb ?_
  show WP _ _ _ _ 4 [.ref b, .long 0, .long 0] [] (mR b pre tn lt un kp ap wb tx sq pa ke to wg we 0 0 0 (fz 0 be 9) (fz 0 po 9) ro kf bg en)
  refine wq_aload_n rfl rfl ?_
  refine wq_getfield (v := .ref (b + 11)) rfl (mS_o hb) rfl ?_
  refine wq_iconst (v := nI 0) rfl (by decide) ?_
  refine wq_iconst (v := nI 0) rfl (by decide) ?_
  refine wn_iastore (g := to) (h' := mR b pre tn lt un kp ap wb tx sq pa ke (uN' to 0 0) wg we 0 0 0 (fz 0 be 9) (fz 0 po 9) ro kf bg en) rfl (mS_a17 hb) (by omega) (by decide) (mS_t17 hb) ?_
  refine wq_aload_n rfl rfl ?_
  refine wq_iconst (v := nI 0) rfl (by decide) ?_
  refine wq_putfield (h' := mR b pre tn lt un kp 0 wb tx sq pa ke (uN' to 0 0) wg we 0 0 0 (fz 0 be 9) (fz 0 po 9) ro kf bg en) rfl (mS_o hb) rfl (mS_s18 hb) ?_
  refine l_M_reads hb hl htx hQ 41 0 0 _ ra0 _ _ _ _ _ _ _ _ _ _ _ rfl (by omega) ⟨Nat.zero_le 40, fun i hi => absurd hi (Nat.not_lt_zero i), fun i hi => absurd hi (Nat.not_lt_zero i)⟩ ⟨uN_s, fun i hi => absurd hi (Nat.not_lt_zero i)⟩ (Sim_0 hSB.1 hSB.2) rfl
