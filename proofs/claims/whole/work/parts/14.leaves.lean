/-! leaves: static helpers of the class and of the reference, members of the JDK -/
theorem fa_nlt {a b : Int32} (h : ¬ a < b) : b ≤ a := Int32.not_lt.mp h
theorem fa_nle {a b : Int32} (h : ¬ a ≤ b) : b < a := Int32.not_le.mp h
theorem fa_lt {a b : Int32} (h : a < b) : ¬ b ≤ a := Int32.not_le.mpr h
theorem bit_1 {a k : Nat} (h : (a >>> k) &&& 1 = 1) : a.testBit k = true := by
  rw [bit_and1] at h
  cases q : a.testBit k
  · rw [q] at h; cases h
  · rfl
theorem bit_0 {a k : Nat} (h : (a >>> k) &&& 1 ≠ 1) : a.testBit k = false := by
  rw [bit_and1] at h
  cases q : a.testBit k
  · rfl
  · rw [q] at h; exact absurd rfl h
theorem bit_ne {a k : Nat} (h : (a >>> k) &&& 1 ≠ 0) : (a >>> k) &&& 1 = 1 := by
  rw [bit_and1] at h ⊢
  split
  · rfl
  · rename_i q; rw [if_neg q] at h; exact absurd rfl h
theorem r_M_in {d : Nat} {h : mH} {Q : Option Value → mH → Prop} {v a b : Int32} (kt : a ≤ v ∧ v ≤ b → Q (some (.int (nI 1))) h) (kf : ¬ (a ≤ v ∧ v ≤ b) → Q (some (.int (nI 0))) h) : Rn mprog (d + 1) n_M_in [.int v, .int a, .int b] h Q := by
  refine Rn.in rfl rfl rfl ?_
  show WP _ _ _ _ 0 [.int v, .int a, .int b] [] h
  refine wq_iload_n rfl rfl ?_
  refine wq_iload_n rfl rfl ?_
  refine wq_ic_lt rfl (fun c2 => ?_) (fun c2 => ?_)
  · skip
    refine wq_iconst (v := nI 0) rfl (by decide) ?_
    refine wq_iret rfl (by first | exact Or.inl rfl | exact Or.inr rfl) ?_
    exact kf (fun q => by first | exact absurd q.1 (fa_lt c2) | exact absurd q.2 (fa_lt c7))
  · skip
    refine wq_iload_n rfl rfl ?_
    refine wq_iload_n rfl rfl ?_
    refine wq_ic_gt rfl (fun c7 => ?_) (fun c7 => ?_)
    · skip
      refine wq_iconst (v := nI 0) rfl (by decide) ?_
      refine wq_iret rfl (by first | exact Or.inl rfl | exact Or.inr rfl) ?_
      exact kf (fun q => by first | exact absurd q.1 (fa_lt c2) | exact absurd q.2 (fa_lt c7))
    · skip
      refine wq_iconst (v := nI 1) rfl (by decide) ?_
      refine wq_goto rfl ?_
      refine wq_iret rfl (by first | exact Or.inl rfl | exact Or.inr rfl) ?_
      exact kt ⟨fa_nlt c2, fa_nlt c7⟩
theorem r_Z_isPoint {d : Nat} {h : mH} {Q : Option Value → mH → Prop} {v : Int32} (kt : 0 ≤ v ∧ v < 9 → Q (some (.int (nI 1))) h) (kf : ¬ (0 ≤ v ∧ v < 9) → Q (some (.int (nI 0))) h) : Rn mprog (d + 1) n_Z_isPoint [.int v] h Q := by
  refine Rn.in rfl rfl rfl ?_
  show WP _ _ _ _ 0 [.int v] [] h
  refine wq_iload_n rfl rfl ?_
  refine wq_if_lt rfl (fun c1 => ?_) (fun c1 => ?_)
  · skip
    refine wq_iconst (v := nI 0) rfl (by decide) ?_
    refine wq_iret rfl (by first | exact Or.inl rfl | exact Or.inr rfl) ?_
    exact kf (fun q => by first | exact absurd q.1 (fa_lt c1) | exact absurd c7 (fa_lt q.2))
  · skip
    refine wq_iload_n rfl rfl ?_
    refine wq_bipush (v := nI 9) rfl (by decide) ?_
    refine wq_ic_ge rfl (fun c7 => ?_) (fun c7 => ?_)
    · skip
      refine wq_iconst (v := nI 0) rfl (by decide) ?_
      refine wq_iret rfl (by first | exact Or.inl rfl | exact Or.inr rfl) ?_
      exact kf (fun q => by first | exact absurd q.1 (fa_lt c1) | exact absurd c7 (fa_lt q.2))
    · skip
      refine wq_iconst (v := nI 1) rfl (by decide) ?_
      refine wq_goto rfl ?_
      refine wq_iret rfl (by first | exact Or.inl rfl | exact Or.inr rfl) ?_
      exact kt ⟨fa_nlt c1, fa_nle c7⟩
theorem r_Z_isKind {d : Nat} {h : mH} {Q : Option Value → mH → Prop} {v : Int32} (kt : 0 ≤ v ∧ v ≤ 3 → Q (some (.int (nI 1))) h) (kf : ¬ (0 ≤ v ∧ v ≤ 3) → Q (some (.int (nI 0))) h) : Rn mprog (d + 1) n_Z_isKind [.int v] h Q := by
  refine Rn.in rfl rfl rfl ?_
  show WP _ _ _ _ 0 [.int v] [] h
  refine wq_iload_n rfl rfl ?_
  refine wq_if_lt rfl (fun c1 => ?_) (fun c1 => ?_)
  · skip
    refine wq_iconst (v := nI 0) rfl (by decide) ?_
    refine wq_iret rfl (by first | exact Or.inl rfl | exact Or.inr rfl) ?_
    exact kf (fun q => by first | exact absurd q.1 (fa_lt c1) | exact absurd q.2 (fa_lt c6))
  · skip
    refine wq_iload_n rfl rfl ?_
    refine wq_iconst (v := nI 3) rfl (by decide) ?_
    refine wq_ic_gt rfl (fun c6 => ?_) (fun c6 => ?_)
    · skip
      refine wq_iconst (v := nI 0) rfl (by decide) ?_
      refine wq_iret rfl (by first | exact Or.inl rfl | exact Or.inr rfl) ?_
      exact kf (fun q => by first | exact absurd q.1 (fa_lt c1) | exact absurd q.2 (fa_lt c6))
    · skip
      refine wq_iconst (v := nI 1) rfl (by decide) ?_
      refine wq_goto rfl ?_
      refine wq_iret rfl (by first | exact Or.inl rfl | exact Or.inr rfl) ?_
      exact kt ⟨fa_nlt c1, fa_nlt c6⟩
theorem r_Z_isOfEdge {d : Nat} {h : mH} {Q : Option Value → mH → Prop} {v : Int32} (kt : v = 2 ∨ v = 3 → Q (some (.int (nI 1))) h) (kf : ¬ (v = 2 ∨ v = 3) → Q (some (.int (nI 0))) h) : Rn mprog (d + 1) n_Z_isOfEdge [.int v] h Q := by
  refine Rn.in rfl rfl rfl ?_
  show WP _ _ _ _ 0 [.int v] [] h
  refine wq_iload_n rfl rfl ?_
  refine wq_iconst (v := nI 2) rfl (by decide) ?_
  refine wq_ic_eq rfl (fun c2 => ?_) (fun c2 => ?_)
  · skip
    refine wq_iconst (v := nI 1) rfl (by decide) ?_
    refine wq_goto rfl ?_
    refine wq_iret rfl (by first | exact Or.inl rfl | exact Or.inr rfl) ?_
    first | exact kt (Or.inl c2) | exact kt (Or.inr c7)
  · skip
    refine wq_iload_n rfl rfl ?_
    refine wq_iconst (v := nI 3) rfl (by decide) ?_
    refine wq_ic_ne rfl (fun c7 => ?_) (fun c7 => ?_)
    · skip
      refine wq_iconst (v := nI 0) rfl (by decide) ?_
      refine wq_iret rfl (by first | exact Or.inl rfl | exact Or.inr rfl) ?_
      exact kf (fun q => q.elim c2 c7)
    · skip
      refine wq_iconst (v := nI 1) rfl (by decide) ?_
      refine wq_goto rfl ?_
      refine wq_iret rfl (by first | exact Or.inl rfl | exact Or.inr rfl) ?_
      first | exact kt (Or.inl c2) | exact kt (Or.inr c7)
theorem r_M_has {d : Nat} {h : mH} {Q : Option Value → mH → Prop} {a k : Nat} (ha : a < 2 ^ 31) (hk : k < 32) (kt : a.testBit k = true → Q (some (.int (nI 1))) h) (kf : a.testBit k = false → Q (some (.int (nI 0))) h) : Rn mprog (d + 1) n_M_has [.int (nI a), .int (nI k)] h Q := by
  refine Rn.in rfl rfl rfl ?_
  show WP _ _ _ _ 0 [.int (nI a), .int (nI k)] [] h
  refine wq_iload_n rfl rfl ?_
  refine wq_iload_n rfl rfl ?_
  refine wn_ishr rfl (by omega) (by omega) ?_
  refine wq_iconst (v := nI 1) rfl (by decide) ?_
  refine wn_iand rfl ?_
  refine wq_iconst (v := nI 1) rfl (by decide) ?_
  have hb1 : a >>> k &&& 1 ≤ 1 := Nat.and_le_right
  refine wn_ic_ne rfl (by omega) (by omega) (fun c6 => ?_) (fun c6 => ?_)
  · skip
    refine wq_iconst (v := nI 0) rfl (by decide) ?_
    refine wq_iret rfl (by first | exact Or.inl rfl | exact Or.inr rfl) ?_
    exact kf (bit_0 c6)
  · skip
    refine wq_iconst (v := nI 1) rfl (by decide) ?_
    refine wq_goto rfl ?_
    refine wq_iret rfl (by first | exact Or.inl rfl | exact Or.inr rfl) ?_
    exact kt (bit_1 c6)
theorem r_Z_isIn {d : Nat} {h : mH} {Q : Option Value → mH → Prop} {a k : Nat} (ha : a < 2 ^ 31) (hk : k < 32) (kt : a.testBit k = true → Q (some (.int (nI 1))) h) (kf : a.testBit k = false → Q (some (.int (nI 0))) h) : Rn mprog (d + 1) n_Z_isIn [.int (nI a), .int (nI k)] h Q := by
  refine Rn.in rfl rfl rfl ?_
  show WP _ _ _ _ 0 [.int (nI a), .int (nI k)] [] h
  refine wq_iload_n rfl rfl ?_
  refine wq_iload_n rfl rfl ?_
  refine wn_ishr rfl (by omega) (by omega) ?_
  refine wq_iconst (v := nI 1) rfl (by decide) ?_
  refine wn_iand rfl ?_
  have hb1 : a >>> k &&& 1 ≤ 1 := Nat.and_le_right
  refine wn_if_eq rfl (by omega) (fun c5 => ?_) (fun c5 => ?_)
  · skip
    refine wq_iconst (v := nI 0) rfl (by decide) ?_
    refine wq_iret rfl (by first | exact Or.inl rfl | exact Or.inr rfl) ?_
    exact kf (bit_0 (by rw [c5]; decide))
  · skip
    refine wq_iconst (v := nI 1) rfl (by decide) ?_
    refine wq_goto rfl ?_
    refine wq_iret rfl (by first | exact Or.inl rfl | exact Or.inr rfl) ?_
    exact kt (bit_1 (bit_ne c5))
theorem r_Z_kindOf {d : Nat} {h : mH} {Q : Option Value → mH → Prop} {a : Nat} (ha : a < 2 ^ 31) (hQ : Q (some (.int (nI (a >>> 8)))) h) : Rn mprog (d + 1) n_Z_kindOf [.int (nI a)] h Q := by
  refine Rn.in rfl rfl rfl ?_
  show WP _ _ _ _ 0 [.int (nI a)] [] h
  refine wq_iload_n rfl rfl ?_
  refine wq_bipush (v := nI 8) rfl (by decide) ?_
  refine wn_ishr rfl (by omega) (by omega) ?_
  refine wq_iret rfl trivial ?_
  exact hQ
theorem r_Z_lowOf {d : Nat} {h : mH} {Q : Option Value → mH → Prop} {a : Nat} (ha : a < 2 ^ 31) (hQ : Q (some (.int (nI ((a >>> 4) &&& 15)))) h) : Rn mprog (d + 1) n_Z_lowOf [.int (nI a)] h Q := by
  refine Rn.in rfl rfl rfl ?_
  show WP _ _ _ _ 0 [.int (nI a)] [] h
  refine wq_iload_n rfl rfl ?_
  refine wq_iconst (v := nI 4) rfl (by decide) ?_
  refine wn_ishr rfl (by omega) (by omega) ?_
  refine wq_bipush (v := nI 15) rfl (by decide) ?_
  refine wn_iand rfl ?_
  refine wq_iret rfl trivial ?_
  exact hQ
theorem r_Z_highOf {d : Nat} {h : mH} {Q : Option Value → mH → Prop} {a : Nat} (hQ : Q (some (.int (nI (a &&& 15)))) h) : Rn mprog (d + 1) n_Z_highOf [.int (nI a)] h Q := by
  refine Rn.in rfl rfl rfl ?_
  show WP _ _ _ _ 0 [.int (nI a)] [] h
  refine wq_iload_n rfl rfl ?_
  refine wq_bipush (v := nI 15) rfl (by decide) ?_
  refine wn_iand rfl ?_
  refine wq_iret rfl trivial ?_
  exact hQ
theorem r_Z_kindOf_no {d : Nat} {h : mH} {Q : Option Value → mH → Prop} (hQ : Q (some (.int (-1))) h) : Rn mprog (d + 1) n_Z_kindOf [.int (-1)] h Q := by
  refine Rn.in rfl rfl rfl ?_
  show WP _ _ _ _ 0 [.int ((-1))] [] h
  refine wq_iload_n rfl rfl ?_
  refine wq_bipush (v := nI 8) rfl (by decide) ?_
  refine wq_ishr (v := ((-1)) >>> (nI 8 &&& 31)) rfl rfl ?_
  refine wq_iret rfl trivial ?_
  exact hQ
theorem r_Z_lowOf_no {d : Nat} {h : mH} {Q : Option Value → mH → Prop} (hQ : Q (some (.int (nI 15))) h) : Rn mprog (d + 1) n_Z_lowOf [.int (-1)] h Q := by
  refine Rn.in rfl rfl rfl ?_
  show WP _ _ _ _ 0 [.int ((-1))] [] h
  refine wq_iload_n rfl rfl ?_
  refine wq_iconst (v := nI 4) rfl (by decide) ?_
  refine wq_ishr (v := ((-1)) >>> (nI 4 &&& 31)) rfl rfl ?_
  refine wq_bipush (v := nI 15) rfl (by decide) ?_
  refine wq_iand (v := (((-1)) >>> (nI 4 &&& 31)) &&& (nI 15)) rfl rfl ?_
  refine wq_iret rfl trivial ?_
  exact hQ
theorem r_Z_highOf_no {d : Nat} {h : mH} {Q : Option Value → mH → Prop} (hQ : Q (some (.int (nI 15))) h) : Rn mprog (d + 1) n_Z_highOf [.int (-1)] h Q := by
  refine Rn.in rfl rfl rfl ?_
  show WP _ _ _ _ 0 [.int ((-1))] [] h
  refine wq_iload_n rfl rfl ?_
  refine wq_bipush (v := nI 15) rfl (by decide) ?_
  refine wq_iand (v := ((-1)) &&& (nI 15)) rfl rfl ?_
  refine wq_iret rfl trivial ?_
  exact hQ
theorem r_Z_itemLength {d : Nat} {h : mH} {Q : Option Value → mH → Prop} {v : Int32} (kt : v = 2 ∨ v = 3 → Q (some (.int (nI 4))) h) (kf : ¬ (v = 2 ∨ v = 3) → Q (some (.int (nI 3))) h) : Rn mprog (d + 2) n_Z_itemLength [.int v] h Q := by
  refine Rn.in rfl rfl rfl ?_
  show WP _ _ _ _ 0 [.int v] [] h
  refine wq_iload_n rfl rfl ?_
  refine wq_stat (a := [.int v]) (rest := []) rfl rfl rfl rfl rfl ?_
  refine r_Z_isOfEdge (fun c1 => ?_) (fun c1 => ?_)
  · skip
    show WP _ _ _ _ 4 [.int v] [.int (nI 1)] h
    refine wq_if_eq rfl (fun c => absurd c (by decide)) (fun _ => ?_)
    refine wq_iconst (v := nI 4) rfl (by decide) ?_
    refine wq_goto rfl ?_
    refine wq_iret rfl trivial ?_
    exact kt c1
  · skip
    show WP _ _ _ _ 4 [.int v] [.int (nI 0)] h
    refine wq_if_eq rfl (fun _ => ?_) (fun c => absurd c (by decide))
    refine wq_iconst (v := nI 3) rfl (by decide) ?_
    refine wq_iret rfl trivial ?_
    exact kf c1
theorem r_M_kindOf {d : Nat} {h : mH} {Q : Option Value → mH → Prop} {a : Nat} (ha : a < 2 ^ 31) (hQ : Q (some (.int (nI (a / 100)))) h) : Rn mprog (d + 1) n_M_kindOf [.int (nI a)] h Q := by
  refine Rn.in rfl rfl rfl ?_
  show WP _ _ _ _ 0 [.int (nI a)] [] h
  refine wq_iload_n rfl rfl ?_
  refine wq_bipush (v := nI 100) rfl (by decide) ?_
  refine wn_idiv rfl (by decide) (by omega) (by decide) ?_
  refine wq_iret rfl trivial ?_
  exact hQ
theorem r_M_oneOf {d : Nat} {h : mH} {Q : Option Value → mH → Prop} {a : Nat} (ha : a < 2 ^ 31) (hQ : Q (some (.int (nI (a / 10 % 10)))) h) : Rn mprog (d + 1) n_M_oneOf [.int (nI a)] h Q := by
  refine Rn.in rfl rfl rfl ?_
  show WP _ _ _ _ 0 [.int (nI a)] [] h
  refine wq_iload_n rfl rfl ?_
  refine wq_bipush (v := nI 10) rfl (by decide) ?_
  refine wn_idiv rfl (by decide) (by omega) (by decide) ?_
  refine wq_bipush (v := nI 10) rfl (by decide) ?_
  refine wn_irem rfl (by decide) (by omega) (by decide) ?_
  refine wq_iret rfl trivial ?_
  exact hQ
theorem r_M_otherOf {d : Nat} {h : mH} {Q : Option Value → mH → Prop} {a : Nat} (ha : a < 2 ^ 31) (hQ : Q (some (.int (nI (a % 10)))) h) : Rn mprog (d + 1) n_M_otherOf [.int (nI a)] h Q := by
  refine Rn.in rfl rfl rfl ?_
  show WP _ _ _ _ 0 [.int (nI a)] [] h
  refine wq_iload_n rfl rfl ?_
  refine wq_bipush (v := nI 10) rfl (by decide) ?_
  refine wn_irem rfl (by decide) (by omega) (by decide) ?_
  refine wq_iret rfl trivial ?_
  exact hQ
