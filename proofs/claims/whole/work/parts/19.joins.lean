/-! the reference's story: joins, does, runs -/
def isR (pcs : Nat) (kf : Nat → Nat → Nat) (one oth q : Nat) : Bool := Nat.beq q one || Nat.beq q oth || (pcs.testBit q && (Nat.blt 0 (kf one q) || Nat.blt 0 (kf oth q)))
theorem isR_iff {pcs one oth q : Nat} {kf : Nat → Nat → Nat} : isR pcs kf one oth q = true ↔ q = one ∨ q = oth ∨ (pcs.testBit q = true ∧ (0 < kf one q ∨ 0 < kf oth q)) := by
  unfold isR
  rw [Bool.or_eq_true, Bool.or_eq_true, Bool.and_eq_true, Bool.or_eq_true, Nat.beq_eq, Nat.beq_eq, nblt, nblt, or_assoc]
theorem isR_f {pcs one oth q : Nat} {kf : Nat → Nat → Nat} (h : ¬ (q = one ∨ q = oth ∨ (pcs.testBit q = true ∧ (0 < kf one q ∨ 0 < kf oth q)))) : isR pcs kf one oth q = false := by
  cases e : isR pcs kf one oth q
  · rfl
  · exact absurd (isR_iff.mp e) h
theorem l_S_joinsR {d b : Nat} {pre : mH} {F : Nat → Nat} {G : Nat → Nat → Nat} {th pcs brs : Nat} {be po ro bg en : Nat → Nat} {kf : Nat → Nat → Nat} {Q : Option Value → mH → Prop} (hb : pre.length = b) {a bb num one oth sn le gr : Nat} (h1 : one < 9) (h2 : oth < 9) (hp : pcs < 512) (hk : ∀ p q, p < 9 → q < 9 → kf p q < 1000) (k : ∀ x9 x10 : Value, WP (Rn mprog (d + 2)) k_M_joins none Q 231 [.ref b, .int (nI a), .int (nI bb), .int (nI num), .int (nI one), .int (nI oth), .int (nI sn), .int (nI le), .int (nI gr), x9, x10] [] (mS b pre F G th pcs brs be po (pw 9 (isR pcs kf one oth) (fun _ => le) ro) kf bg en)) : ∀ (n i : Nat) (x10 : Value), i + n = 9 → WP (Rn mprog (d + 2)) k_M_joins none Q 139 [.ref b, .int (nI a), .int (nI bb), .int (nI num), .int (nI one), .int (nI oth), .int (nI sn), .int (nI le), .int (nI gr), .int (nI i), x10] [] (mS b pre F G th pcs brs be po (pw i (isR pcs kf one oth) (fun _ => le) ro) kf bg en) := by
  intro n
  induction n with
  | zero =>
    intro i x10 hi
    have hi9 : i = 9 := by omega
    subst hi9
    refine wq_iload rfl rfl ?_
    refine wq_bipush (v := nI 9) rfl (by decide) ?_
    refine wq_ic_ge rfl (fun _ => ?_) (fun c => absurd c (by decide))
    exact k _ _
  | succ n ih =>
    intro i x10 hi
    have hk1 := hk one i h1 (by omega)
    have hk2 := hk oth i h2 (by omega)
    refine wq_iload rfl rfl ?_
    refine wq_bipush (v := nI 9) rfl (by decide) ?_
    refine wn_ic_ge rfl (by omega) (by omega) (fun c143 => absurd c143 (by omega)) (fun c143 => ?_)
    refine wq_iload rfl rfl ?_
    refine wq_iload rfl rfl ?_
    refine wn_ic_eq rfl (by omega) (by omega) (fun c150 => ?_) (fun c150 => ?_)
    · skip
      refine wq_iconst (v := nI 1) rfl (by decide) ?_
      refine wq_goto rfl ?_
      refine wq_istore (lv' := [.ref b, .int (nI a), .int (nI bb), .int (nI num), .int (nI one), .int (nI oth), .int (nI sn), .int (nI le), .int (nI gr), .int (nI i), .int (nI 1)]) rfl rfl rfl ?_
      refine wq_aload_n rfl rfl ?_
      refine wq_getfield (v := .ref (b + 7)) rfl (mS_o hb) rfl ?_
      refine wq_iload rfl rfl ?_
      refine wq_iload rfl rfl ?_
      refine wq_if_eq rfl (fun c => absurd c (by decide)) (fun _ => ?_)
      refine wq_iload rfl rfl ?_
      refine wq_goto rfl ?_
      refine wn_iastore (g := (pw i (isR pcs kf one oth) (fun _ => le) ro)) (h' := mS b pre F G th pcs brs be po (uN' ((pw i (isR pcs kf one oth) (fun _ => le) ro)) i le) kf bg en) rfl (mS_a12 hb) (by omega) (by decide) (mS_t12 hb) ?_
      refine wn_inc (lv' := [.ref b, .int (nI a), .int (nI bb), .int (nI num), .int (nI one), .int (nI oth), .int (nI sn), .int (nI le), .int (nI gr), .int (nI (i + 1)), .int (nI 1)]) rfl rfl rfl ?_
      refine wq_goto rfl ?_
      have hR : isR pcs kf one oth i = true := isR_iff.mpr (Or.inl c150)
      rw [pw_s (by rw [hR]; simp [pw_at])]
      exact ih (i + 1) _ (by omega)
    · skip
      refine wq_iload rfl rfl ?_
      refine wq_iload rfl rfl ?_
      refine wn_ic_eq rfl (by omega) (by omega) (fun c157 => ?_) (fun c157 => ?_)
      · skip
        refine wq_iconst (v := nI 1) rfl (by decide) ?_
        refine wq_goto rfl ?_
        refine wq_istore (lv' := [.ref b, .int (nI a), .int (nI bb), .int (nI num), .int (nI one), .int (nI oth), .int (nI sn), .int (nI le), .int (nI gr), .int (nI i), .int (nI 1)]) rfl rfl rfl ?_
        refine wq_aload_n rfl rfl ?_
        refine wq_getfield (v := .ref (b + 7)) rfl (mS_o hb) rfl ?_
        refine wq_iload rfl rfl ?_
        refine wq_iload rfl rfl ?_
        refine wq_if_eq rfl (fun c => absurd c (by decide)) (fun _ => ?_)
        refine wq_iload rfl rfl ?_
        refine wq_goto rfl ?_
        refine wn_iastore (g := (pw i (isR pcs kf one oth) (fun _ => le) ro)) (h' := mS b pre F G th pcs brs be po (uN' ((pw i (isR pcs kf one oth) (fun _ => le) ro)) i le) kf bg en) rfl (mS_a12 hb) (by omega) (by decide) (mS_t12 hb) ?_
        refine wn_inc (lv' := [.ref b, .int (nI a), .int (nI bb), .int (nI num), .int (nI one), .int (nI oth), .int (nI sn), .int (nI le), .int (nI gr), .int (nI (i + 1)), .int (nI 1)]) rfl rfl rfl ?_
        refine wq_goto rfl ?_
        have hR : isR pcs kf one oth i = true := isR_iff.mpr (Or.inr (Or.inl c157))
        rw [pw_s (by rw [hR]; simp [pw_at])]
        exact ih (i + 1) _ (by omega)
      · skip
        refine wq_aload_n rfl rfl ?_
        refine wq_getfield (v := .int (nI pcs)) rfl (mS_o hb) rfl ?_
        refine wq_iload rfl rfl ?_
        refine wq_stat (a := [.int (nI pcs), .int (nI i)]) (rest := []) rfl rfl rfl rfl rfl ?_
        refine r_M_has (by omega) (by omega) (fun c166 => ?_) (fun c166 => ?_)
        · skip
          show WP _ _ _ _ 169 [.ref b, .int (nI a), .int (nI bb), .int (nI num), .int (nI one), .int (nI oth), .int (nI sn), .int (nI le), .int (nI gr), .int (nI i), x10] [.int (nI 1)] (mS b pre F G th pcs brs be po (pw i (isR pcs kf one oth) (fun _ => le) ro) kf bg en)
          refine wq_if_eq rfl (fun c => absurd c (by decide)) (fun _ => ?_)
          refine wq_aload_n rfl rfl ?_
          refine wq_iload rfl rfl ?_
          refine wq_iload rfl rfl ?_
          refine wq_virt (b := b) (a := [.int (nI one), .int (nI i)]) (rest := []) rfl rfl rfl rfl rfl (mS_o hb) ?_
          refine r_S_kinOf hb (by omega) (by omega) ?_
          show WP _ _ _ _ 180 [.ref b, .int (nI a), .int (nI bb), .int (nI num), .int (nI one), .int (nI oth), .int (nI sn), .int (nI le), .int (nI gr), .int (nI i), x10] [.int (nI (kf one i))] (mS b pre F G th pcs brs be po (pw i (isR pcs kf one oth) (fun _ => le) ro) kf bg en)
          refine wn_if_gt rfl (by omega) (fun c180 => ?_) (fun c180 => ?_)
          · skip
            refine wq_iconst (v := nI 1) rfl (by decide) ?_
            refine wq_goto rfl ?_
            refine wq_istore (lv' := [.ref b, .int (nI a), .int (nI bb), .int (nI num), .int (nI one), .int (nI oth), .int (nI sn), .int (nI le), .int (nI gr), .int (nI i), .int (nI 1)]) rfl rfl rfl ?_
            refine wq_aload_n rfl rfl ?_
            refine wq_getfield (v := .ref (b + 7)) rfl (mS_o hb) rfl ?_
            refine wq_iload rfl rfl ?_
            refine wq_iload rfl rfl ?_
            refine wq_if_eq rfl (fun c => absurd c (by decide)) (fun _ => ?_)
            refine wq_iload rfl rfl ?_
            refine wq_goto rfl ?_
            refine wn_iastore (g := (pw i (isR pcs kf one oth) (fun _ => le) ro)) (h' := mS b pre F G th pcs brs be po (uN' ((pw i (isR pcs kf one oth) (fun _ => le) ro)) i le) kf bg en) rfl (mS_a12 hb) (by omega) (by decide) (mS_t12 hb) ?_
            refine wn_inc (lv' := [.ref b, .int (nI a), .int (nI bb), .int (nI num), .int (nI one), .int (nI oth), .int (nI sn), .int (nI le), .int (nI gr), .int (nI (i + 1)), .int (nI 1)]) rfl rfl rfl ?_
            refine wq_goto rfl ?_
            have hR : isR pcs kf one oth i = true := isR_iff.mpr (Or.inr (Or.inr ⟨c166, Or.inl c180⟩))
            rw [pw_s (by rw [hR]; simp [pw_at])]
            exact ih (i + 1) _ (by omega)
          · skip
            refine wq_aload_n rfl rfl ?_
            refine wq_iload rfl rfl ?_
            refine wq_iload rfl rfl ?_
            refine wq_virt (b := b) (a := [.int (nI oth), .int (nI i)]) (rest := []) rfl rfl rfl rfl rfl (mS_o hb) ?_
            refine r_S_kinOf hb (by omega) (by omega) ?_
            show WP _ _ _ _ 191 [.ref b, .int (nI a), .int (nI bb), .int (nI num), .int (nI one), .int (nI oth), .int (nI sn), .int (nI le), .int (nI gr), .int (nI i), x10] [.int (nI (kf oth i))] (mS b pre F G th pcs brs be po (pw i (isR pcs kf one oth) (fun _ => le) ro) kf bg en)
            refine wn_if_le rfl (by omega) (fun c191 => ?_) (fun c191 => ?_)
            · skip
              refine wq_iconst (v := nI 0) rfl (by decide) ?_
              refine wq_istore (lv' := [.ref b, .int (nI a), .int (nI bb), .int (nI num), .int (nI one), .int (nI oth), .int (nI sn), .int (nI le), .int (nI gr), .int (nI i), .int (nI 0)]) rfl rfl rfl ?_
              refine wq_aload_n rfl rfl ?_
              refine wq_getfield (v := .ref (b + 7)) rfl (mS_o hb) rfl ?_
              refine wq_iload rfl rfl ?_
              refine wq_iload rfl rfl ?_
              refine wq_if_eq rfl (fun _ => ?_) (fun c => absurd c (by decide))
              refine wq_aload_n rfl rfl ?_
              refine wq_getfield (v := .ref (b + 7)) rfl (mS_o hb) rfl ?_
              refine wq_iload rfl rfl ?_
              refine wn_iaload (g := (pw i (isR pcs kf one oth) (fun _ => le) ro)) rfl (mS_a12 hb) (by omega) (by decide) ?_
              refine wn_iastore (g := (pw i (isR pcs kf one oth) (fun _ => le) ro)) (h' := mS b pre F G th pcs brs be po (uN' ((pw i (isR pcs kf one oth) (fun _ => le) ro)) i (((pw i (isR pcs kf one oth) (fun _ => le) ro)) i)) kf bg en) rfl (mS_a12 hb) (by omega) (by decide) (mS_t12 hb) ?_
              refine wn_inc (lv' := [.ref b, .int (nI a), .int (nI bb), .int (nI num), .int (nI one), .int (nI oth), .int (nI sn), .int (nI le), .int (nI gr), .int (nI (i + 1)), .int (nI 0)]) rfl rfl rfl ?_
              refine wq_goto rfl ?_
              have hR : isR pcs kf one oth i = false := isR_f (by simp [c150, c157, c180, c191])
              rw [pw_s (by rw [hR]; simp [pw_at])]
              exact ih (i + 1) _ (by omega)
            · skip
              refine wq_iconst (v := nI 1) rfl (by decide) ?_
              refine wq_goto rfl ?_
              refine wq_istore (lv' := [.ref b, .int (nI a), .int (nI bb), .int (nI num), .int (nI one), .int (nI oth), .int (nI sn), .int (nI le), .int (nI gr), .int (nI i), .int (nI 1)]) rfl rfl rfl ?_
              refine wq_aload_n rfl rfl ?_
              refine wq_getfield (v := .ref (b + 7)) rfl (mS_o hb) rfl ?_
              refine wq_iload rfl rfl ?_
              refine wq_iload rfl rfl ?_
              refine wq_if_eq rfl (fun c => absurd c (by decide)) (fun _ => ?_)
              refine wq_iload rfl rfl ?_
              refine wq_goto rfl ?_
              refine wn_iastore (g := (pw i (isR pcs kf one oth) (fun _ => le) ro)) (h' := mS b pre F G th pcs brs be po (uN' ((pw i (isR pcs kf one oth) (fun _ => le) ro)) i le) kf bg en) rfl (mS_a12 hb) (by omega) (by decide) (mS_t12 hb) ?_
              refine wn_inc (lv' := [.ref b, .int (nI a), .int (nI bb), .int (nI num), .int (nI one), .int (nI oth), .int (nI sn), .int (nI le), .int (nI gr), .int (nI (i + 1)), .int (nI 1)]) rfl rfl rfl ?_
              refine wq_goto rfl ?_
              have hR : isR pcs kf one oth i = true := isR_iff.mpr (Or.inr (Or.inr ⟨c166, Or.inr c191⟩))
              rw [pw_s (by rw [hR]; simp [pw_at])]
              exact ih (i + 1) _ (by omega)
        · skip
          show WP _ _ _ _ 169 [.ref b, .int (nI a), .int (nI bb), .int (nI num), .int (nI one), .int (nI oth), .int (nI sn), .int (nI le), .int (nI gr), .int (nI i), x10] [.int (nI 0)] (mS b pre F G th pcs brs be po (pw i (isR pcs kf one oth) (fun _ => le) ro) kf bg en)
          refine wq_if_eq rfl (fun _ => ?_) (fun c => absurd c (by decide))
          refine wq_iconst (v := nI 0) rfl (by decide) ?_
          refine wq_istore (lv' := [.ref b, .int (nI a), .int (nI bb), .int (nI num), .int (nI one), .int (nI oth), .int (nI sn), .int (nI le), .int (nI gr), .int (nI i), .int (nI 0)]) rfl rfl rfl ?_
          refine wq_aload_n rfl rfl ?_
          refine wq_getfield (v := .ref (b + 7)) rfl (mS_o hb) rfl ?_
          refine wq_iload rfl rfl ?_
          refine wq_iload rfl rfl ?_
          refine wq_if_eq rfl (fun _ => ?_) (fun c => absurd c (by decide))
          refine wq_aload_n rfl rfl ?_
          refine wq_getfield (v := .ref (b + 7)) rfl (mS_o hb) rfl ?_
          refine wq_iload rfl rfl ?_
          refine wn_iaload (g := (pw i (isR pcs kf one oth) (fun _ => le) ro)) rfl (mS_a12 hb) (by omega) (by decide) ?_
          refine wn_iastore (g := (pw i (isR pcs kf one oth) (fun _ => le) ro)) (h' := mS b pre F G th pcs brs be po (uN' ((pw i (isR pcs kf one oth) (fun _ => le) ro)) i (((pw i (isR pcs kf one oth) (fun _ => le) ro)) i)) kf bg en) rfl (mS_a12 hb) (by omega) (by decide) (mS_t12 hb) ?_
          refine wn_inc (lv' := [.ref b, .int (nI a), .int (nI bb), .int (nI num), .int (nI one), .int (nI oth), .int (nI sn), .int (nI le), .int (nI gr), .int (nI (i + 1)), .int (nI 0)]) rfl rfl rfl ?_
          refine wq_goto rfl ?_
          have hR : isR pcs kf one oth i = false := isR_f (by rw [c166]; simp [c150, c157])
          rw [pw_s (by rw [hR]; simp [pw_at])]
          exact ih (i + 1) _ (by omega)
def cJ (pcs : Nat) (kf : Nat → Nat → Nat) (one oth q : Nat) : Bool := pcs.testBit q && !Nat.beq q one && Nat.blt (kf one q) (kf oth q)
theorem cJ_iff {pcs one oth q : Nat} {kf : Nat → Nat → Nat} : cJ pcs kf one oth q = true ↔ pcs.testBit q = true ∧ q ≠ one ∧ kf one q < kf oth q := by
  unfold cJ
  rw [Bool.and_eq_true, Bool.and_eq_true, nbeq, nblt, and_assoc]
def kj (pcs : Nat) (kf : Nat → Nat → Nat) (one oth i : Nat) : Nat → Nat → Nat := fun x y =>
  if x = one ∧ y < i ∧ cJ pcs kf one oth y = true then kf oth y else if y = one ∧ x < i ∧ cJ pcs kf one oth x = true then kf oth x else kf x y
theorem kj_0 (pcs : Nat) (kf : Nat → Nat → Nat) (one oth : Nat) : kj pcs kf one oth 0 = kf := by
  funext x y
  unfold kj
  rw [if_neg (by omega), if_neg (by omega)]
theorem kj_at {pcs : Nat} {kf : Nat → Nat → Nat} {one oth i x : Nat} (h : i ≠ one) : kj pcs kf one oth i x i = kf x i := by
  unfold kj
  rw [if_neg (by omega), if_neg (fun q => h q.1)]
theorem kj_t {pcs : Nat} {kf : Nat → Nat → Nat} {one oth i v : Nat} (hc : cJ pcs kf one oth i = true) (hv : v = kf oth i) : sK (kj pcs kf one oth i) one i v = kj pcs kf one oth (i + 1) := by
  have hi := (cJ_iff.mp hc).2.1
  funext x y
  unfold sK kj
  by_cases hx : x = one
  · by_cases hy : y = i
    · rw [if_pos (c := (x = one ∧ y = i) ∨ (x = i ∧ y = one)) (Or.inl ⟨hx, hy⟩), if_pos (c := x = one ∧ y < i + 1 ∧ _) ⟨hx, by omega, by rw [hy]; exact hc⟩, hv, hy]
    · rw [if_neg (c := (x = one ∧ y = i) ∨ (x = i ∧ y = one)) (by omega)]
      have e1 : (x = one ∧ y < i ∧ cJ pcs kf one oth y = true) ↔ (x = one ∧ y < i + 1 ∧ cJ pcs kf one oth y = true) := ⟨fun q => ⟨q.1, by omega, q.2.2⟩, fun q => ⟨q.1, by omega, q.2.2⟩⟩
      have e2 : (y = one ∧ x < i ∧ cJ pcs kf one oth x = true) ↔ (y = one ∧ x < i + 1 ∧ cJ pcs kf one oth x = true) := ⟨fun q => ⟨q.1, by omega, q.2.2⟩, fun q => ⟨q.1, by omega, q.2.2⟩⟩
      simp only [e1, e2]
  · rw [if_neg (c := x = one ∧ y < i ∧ _) (fun q => hx q.1), if_neg (c := x = one ∧ y < i + 1 ∧ _) (fun q => hx q.1)]
    by_cases h2 : x = i ∧ y = one
    · rw [if_pos (c := (x = one ∧ y = i) ∨ (x = i ∧ y = one)) (Or.inr h2), if_pos (c := y = one ∧ x < i + 1 ∧ _) ⟨h2.2, by omega, by rw [h2.1]; exact hc⟩, hv, h2.1]
    · rw [if_neg (c := (x = one ∧ y = i) ∨ (x = i ∧ y = one)) (by omega)]
      have e2 : (y = one ∧ x < i ∧ cJ pcs kf one oth x = true) ↔ (y = one ∧ x < i + 1 ∧ cJ pcs kf one oth x = true) := ⟨fun q => ⟨q.1, by omega, q.2.2⟩, fun q => ⟨q.1, by omega, q.2.2⟩⟩
      simp only [e2]
theorem kj_f {pcs : Nat} {kf : Nat → Nat → Nat} {one oth i : Nat} (hc : cJ pcs kf one oth i = true → False) : kj pcs kf one oth i = kj pcs kf one oth (i + 1) := by
  funext x y
  unfold kj
  have e : ∀ z, (z < i ∧ cJ pcs kf one oth z = true) ↔ (z < i + 1 ∧ cJ pcs kf one oth z = true) := fun z => ⟨fun q => ⟨by omega, q.2⟩, fun q => ⟨by
    rcases Nat.lt_or_eq_of_le (Nat.le_of_lt_succ q.1) with h | h
    · exact h
    · exact (hc (by rw [← h]; exact q.2)).elim, q.2⟩⟩
  simp only [e]
theorem l_S_joinsK {d b : Nat} {pre : mH} {F : Nat → Nat} {G : Nat → Nat → Nat} {th pcs brs : Nat} {be po ro bg en : Nat → Nat} {kf : Nat → Nat → Nat} {Q : Option Value → mH → Prop} (hb : pre.length = b) {a bb num one oth sn le gr : Nat} (h1 : one < 9) (h2 : oth < 9) (hp : pcs < 512) (hk : ∀ p q, p < 9 → q < 9 → kf p q < 1000) (k : ∀ x9 : Value, ∀ x10 : Value, WP (Rn mprog (d + 2)) k_M_joins none Q 326 [.ref b, .int (nI a), .int (nI bb), .int (nI num), .int (nI one), .int (nI oth), .int (nI sn), .int (nI le), .int (nI gr), x9, x10] [] (mS b pre F G th pcs brs be po ro (kj pcs kf one oth 9) bg en)) : ∀ (n i : Nat), i + n = 9 → ∀ x10 : Value, WP (Rn mprog (d + 2)) k_M_joins none Q 259 [.ref b, .int (nI a), .int (nI bb), .int (nI num), .int (nI one), .int (nI oth), .int (nI sn), .int (nI le), .int (nI gr), .int (nI i), x10] [] (mS b pre F G th pcs brs be po ro (kj pcs kf one oth i) bg en) := by
  intro n
  induction n with
  | zero =>
    intro i hi x10
    have hi9 : i = 9 := by omega
    subst hi9
    refine wq_iload rfl rfl ?_
    refine wq_bipush (v := nI 9) rfl (by decide) ?_
    refine wq_ic_ge rfl (fun _ => ?_) (fun c => absurd c (by decide))
    exact k _ _
  | succ n ih =>
    intro i hi x10
    have hk1 := hk one i h1 (by omega)
    have hk2 := hk oth i h2 (by omega)
    refine wq_iload rfl rfl ?_
    refine wq_bipush (v := nI 9) rfl (by decide) ?_
    refine wn_ic_ge rfl (by omega) (by omega) (fun c263 => absurd c263 (by omega)) (fun c263 => ?_)
    refine wq_aload_n rfl rfl ?_
    refine wq_getfield (v := .int (nI pcs)) rfl (mS_o hb) rfl ?_
    refine wq_iload rfl rfl ?_
    refine wq_stat (a := [.int (nI pcs), .int (nI i)]) (rest := []) rfl rfl rfl rfl rfl ?_
    refine r_M_has (by omega) (by omega) (fun c272 => ?_) (fun c272 => ?_)
    · skip
      show WP _ _ _ _ 275 [.ref b, .int (nI a), .int (nI bb), .int (nI num), .int (nI one), .int (nI oth), .int (nI sn), .int (nI le), .int (nI gr), .int (nI i), x10] [.int (nI 1)] (mS b pre F G th pcs brs be po ro (kj pcs kf one oth i) bg en)
      refine wq_if_eq rfl (fun c => absurd c (by decide)) (fun _ => ?_)
      refine wq_iload rfl rfl ?_
      refine wq_iload rfl rfl ?_
      refine wn_ic_eq rfl (by omega) (by omega) (fun c282 => ?_) (fun c282 => ?_)
      · skip
        refine wn_inc (lv' := [.ref b, .int (nI a), .int (nI bb), .int (nI num), .int (nI one), .int (nI oth), .int (nI sn), .int (nI le), .int (nI gr), .int (nI (i + 1)), x10]) rfl rfl rfl ?_
        refine wq_goto rfl ?_
        rw [kj_f (i := i) (fun q => by exact (cJ_iff.mp q).2.1 c282)]
        exact ih (i + 1) (by omega) x10
      · skip
        refine wq_aload_n rfl rfl ?_
        refine wq_iload rfl rfl ?_
        refine wq_iload rfl rfl ?_
        refine wq_virt (b := b) (a := [.int (nI oth), .int (nI i)]) (rest := []) rfl rfl rfl rfl rfl (mS_o hb) ?_
        refine r_S_kinOf hb (by omega) (by omega) ?_
        rw [kj_at c282]
        show WP _ _ _ _ 293 [.ref b, .int (nI a), .int (nI bb), .int (nI num), .int (nI one), .int (nI oth), .int (nI sn), .int (nI le), .int (nI gr), .int (nI i), x10] [.int (nI (kf oth i))] (mS b pre F G th pcs brs be po ro (kj pcs kf one oth i) bg en)
        refine wq_aload_n rfl rfl ?_
        refine wq_iload rfl rfl ?_
        refine wq_iload rfl rfl ?_
        refine wq_virt (b := b) (a := [.int (nI one), .int (nI i)]) (rest := [.int (nI (kf oth i))]) rfl rfl rfl rfl rfl (mS_o hb) ?_
        refine r_S_kinOf hb (by omega) (by omega) ?_
        rw [kj_at c282]
        show WP _ _ _ _ 301 [.ref b, .int (nI a), .int (nI bb), .int (nI num), .int (nI one), .int (nI oth), .int (nI sn), .int (nI le), .int (nI gr), .int (nI i), x10] [.int (nI (kf one i)), .int (nI (kf oth i))] (mS b pre F G th pcs brs be po ro (kj pcs kf one oth i) bg en)
        refine wn_ic_le rfl (by omega) (by omega) (fun c301 => ?_) (fun c301 => ?_)
        · skip
          refine wn_inc (lv' := [.ref b, .int (nI a), .int (nI bb), .int (nI num), .int (nI one), .int (nI oth), .int (nI sn), .int (nI le), .int (nI gr), .int (nI (i + 1)), x10]) rfl rfl rfl ?_
          refine wq_goto rfl ?_
          rw [kj_f (i := i) (fun q => by have := (cJ_iff.mp q).2.2; omega)]
          exact ih (i + 1) (by omega) x10
        · skip
          refine wq_aload_n rfl rfl ?_
          refine wq_iload rfl rfl ?_
          refine wq_iload rfl rfl ?_
          refine wq_aload_n rfl rfl ?_
          refine wq_iload rfl rfl ?_
          refine wq_iload rfl rfl ?_
          refine wq_virt (b := b) (a := [.int (nI oth), .int (nI i)]) (rest := [.int (nI i), .int (nI one), .ref b]) rfl rfl rfl rfl rfl (mS_o hb) ?_
          refine r_S_kinOf hb (by omega) (by omega) ?_
          rw [kj_at c282]
          show WP _ _ _ _ 317 [.ref b, .int (nI a), .int (nI bb), .int (nI num), .int (nI one), .int (nI oth), .int (nI sn), .int (nI le), .int (nI gr), .int (nI i), x10] [.int (nI (kf oth i)), .int (nI i), .int (nI one), .ref b] (mS b pre F G th pcs brs be po ro (kj pcs kf one oth i) bg en)
          refine wq_virt (b := b) (a := [.int (nI one), .int (nI i), .int (nI (kf oth i))]) (rest := []) rfl rfl rfl rfl rfl (mS_o hb) ?_
          refine r_S_makesKin hb (by omega) (by omega) ?_
          show WP _ _ _ _ 320 [.ref b, .int (nI a), .int (nI bb), .int (nI num), .int (nI one), .int (nI oth), .int (nI sn), .int (nI le), .int (nI gr), .int (nI i), x10] [] (mS b pre F G th pcs brs be po ro (sK (kj pcs kf one oth i) one i (kf oth i)) bg en)
          refine wn_inc (lv' := [.ref b, .int (nI a), .int (nI bb), .int (nI num), .int (nI one), .int (nI oth), .int (nI sn), .int (nI le), .int (nI gr), .int (nI (i + 1)), x10]) rfl rfl rfl ?_
          refine wq_goto rfl ?_
          rw [kj_t (cJ_iff.mpr ⟨c272, c282, by omega⟩) rfl]
          exact ih (i + 1) (by omega) x10
    · skip
      show WP _ _ _ _ 275 [.ref b, .int (nI a), .int (nI bb), .int (nI num), .int (nI one), .int (nI oth), .int (nI sn), .int (nI le), .int (nI gr), .int (nI i), x10] [.int (nI 0)] (mS b pre F G th pcs brs be po ro (kj pcs kf one oth i) bg en)
      refine wq_if_eq rfl (fun _ => ?_) (fun c => absurd c (by decide))
      refine wn_inc (lv' := [.ref b, .int (nI a), .int (nI bb), .int (nI num), .int (nI one), .int (nI oth), .int (nI sn), .int (nI le), .int (nI gr), .int (nI (i + 1)), x10]) rfl rfl rfl ?_
      refine wq_goto rfl ?_
      rw [kj_f (i := i) (fun q => by exact absurd (cJ_iff.mp q).1 (by rw [c272]; decide))]
      exact ih (i + 1) (by omega) x10
theorem l_S_joinsP {d b : Nat} {pre : mH} {F : Nat → Nat} {G : Nat → Nat → Nat} {th pcs brs : Nat} {be po ro bg en : Nat → Nat} {kf : Nat → Nat → Nat} {Q : Option Value → mH → Prop} (hb : pre.length = b) {a bb num one oth sn le gr : Nat} (h1 : one < 9) (h2 : oth < 9) (hp : pcs < 512) (hk : ∀ p q, p < 9 → q < 9 → kf p q < 1000) (hth : th < 512) (hpo : ∀ p, p < 9 → po p < 9) (hQ : Q none (mS b pre F G th pcs brs be (pw 9 (fun p => th.testBit p && Nat.beq (po p) oth) (fun _ => one) po) ro kf bg en)) : ∀ (n i : Nat), i + n = 9 → ∀ x10 : Value, WP (Rn mprog (d + 2)) k_M_joins none Q 329 [.ref b, .int (nI a), .int (nI bb), .int (nI num), .int (nI one), .int (nI oth), .int (nI sn), .int (nI le), .int (nI gr), .int (nI i), x10] [] (mS b pre F G th pcs brs be (pw i (fun p => th.testBit p && Nat.beq (po p) oth) (fun _ => one) po) ro kf bg en) := by
  intro n
  induction n with
  | zero =>
    intro i hi x10
    have hi9 : i = 9 := by omega
    subst hi9
    refine wq_iload rfl rfl ?_
    refine wq_bipush (v := nI 9) rfl (by decide) ?_
    refine wq_ic_ge rfl (fun _ => ?_) (fun c => absurd c (by decide))
    refine wq_vret rfl rfl ?_
    exact hQ
  | succ n ih =>
    intro i hi x10
    have hpi := hpo i (by omega)
    have hpa : (pw i (fun p => th.testBit p && Nat.beq (po p) oth) (fun _ => one) po) i = po i := pw_at i _ _ _
    refine wq_iload rfl rfl ?_
    refine wq_bipush (v := nI 9) rfl (by decide) ?_
    refine wn_ic_ge rfl (by omega) (by omega) (fun c333 => absurd c333 (by omega)) (fun c333 => ?_)
    refine wq_aload_n rfl rfl ?_
    refine wq_getfield (v := .ref (b + 6)) rfl (mS_o hb) rfl ?_
    refine wq_iload rfl rfl ?_
    refine wq_aload_n rfl rfl ?_
    refine wq_getfield (v := .int (nI th)) rfl (mS_o hb) rfl ?_
    refine wq_iload rfl rfl ?_
    refine wq_stat (a := [.int (nI th), .int (nI i)]) (rest := [.int (nI i), .ref (b + 6)]) rfl rfl rfl rfl rfl ?_
    refine r_M_has (by omega) (by omega) (fun c348 => ?_) (fun c348 => ?_)
    · skip
      show WP _ _ _ _ 351 [.ref b, .int (nI a), .int (nI bb), .int (nI num), .int (nI one), .int (nI oth), .int (nI sn), .int (nI le), .int (nI gr), .int (nI i), x10] [.int (nI 1), .int (nI i), .ref (b + 6)] (mS b pre F G th pcs brs be (pw i (fun p => th.testBit p && Nat.beq (po p) oth) (fun _ => one) po) ro kf bg en)
      refine wq_if_eq rfl (fun c => absurd c (by decide)) (fun _ => ?_)
      refine wq_aload_n rfl rfl ?_
      refine wq_getfield (v := .ref (b + 6)) rfl (mS_o hb) rfl ?_
      refine wq_iload rfl rfl ?_
      refine wn_iaload (g := (pw i (fun p => th.testBit p && Nat.beq (po p) oth) (fun _ => one) po)) rfl (mS_a10 hb) (by omega) (by decide) ?_
      refine wq_iload rfl rfl ?_
      have hpb : (pw i (fun p => th.testBit p && Nat.beq (po p) oth) (fun _ => one) po) i < 9 := by rw [hpa]; exact hpi
      refine wn_ic_ne rfl (by omega) (by omega) (fun c363 => ?_) (fun c363 => ?_)
      · skip
        refine wq_aload_n rfl rfl ?_
        refine wq_getfield (v := .ref (b + 6)) rfl (mS_o hb) rfl ?_
        refine wq_iload rfl rfl ?_
        refine wn_iaload (g := (pw i (fun p => th.testBit p && Nat.beq (po p) oth) (fun _ => one) po)) rfl (mS_a10 hb) (by omega) (by decide) ?_
        refine wn_iastore (g := (pw i (fun p => th.testBit p && Nat.beq (po p) oth) (fun _ => one) po)) (h' := mS b pre F G th pcs brs be (uN' ((pw i (fun p => th.testBit p && Nat.beq (po p) oth) (fun _ => one) po)) i (((pw i (fun p => th.testBit p && Nat.beq (po p) oth) (fun _ => one) po)) i)) ro kf bg en) rfl (mS_a10 hb) (by omega) (by decide) (mS_t10 hb) ?_
        refine wn_inc (lv' := [.ref b, .int (nI a), .int (nI bb), .int (nI num), .int (nI one), .int (nI oth), .int (nI sn), .int (nI le), .int (nI gr), .int (nI (i + 1)), x10]) rfl rfl rfl ?_
        refine wq_goto rfl ?_
        rw [hpa] at c363
        have hne : Nat.beq (po i) oth = false := by
          cases q : Nat.beq (po i) oth
          · rfl
          · exact absurd (Nat.eq_of_beq_eq_true q) c363
        rw [pw_s (by rw [hpa, c348, hne]; rfl)]
        exact ih (i + 1) (by omega) x10
      · skip
        refine wq_iload rfl rfl ?_
        refine wq_goto rfl ?_
        refine wn_iastore (g := (pw i (fun p => th.testBit p && Nat.beq (po p) oth) (fun _ => one) po)) (h' := mS b pre F G th pcs brs be (uN' ((pw i (fun p => th.testBit p && Nat.beq (po p) oth) (fun _ => one) po)) i one) ro kf bg en) rfl (mS_a10 hb) (by omega) (by decide) (mS_t10 hb) ?_
        refine wn_inc (lv' := [.ref b, .int (nI a), .int (nI bb), .int (nI num), .int (nI one), .int (nI oth), .int (nI sn), .int (nI le), .int (nI gr), .int (nI (i + 1)), x10]) rfl rfl rfl ?_
        refine wq_goto rfl ?_
        rw [hpa] at c363
        rw [pw_s (by rw [c348, c363]; simp)]
        exact ih (i + 1) (by omega) x10
    · skip
      show WP _ _ _ _ 351 [.ref b, .int (nI a), .int (nI bb), .int (nI num), .int (nI one), .int (nI oth), .int (nI sn), .int (nI le), .int (nI gr), .int (nI i), x10] [.int (nI 0), .int (nI i), .ref (b + 6)] (mS b pre F G th pcs brs be (pw i (fun p => th.testBit p && Nat.beq (po p) oth) (fun _ => one) po) ro kf bg en)
      refine wq_if_eq rfl (fun _ => ?_) (fun c => absurd c (by decide))
      refine wq_aload_n rfl rfl ?_
      refine wq_getfield (v := .ref (b + 6)) rfl (mS_o hb) rfl ?_
      refine wq_iload rfl rfl ?_
      refine wn_iaload (g := (pw i (fun p => th.testBit p && Nat.beq (po p) oth) (fun _ => one) po)) rfl (mS_a10 hb) (by omega) (by decide) ?_
      refine wn_iastore (g := (pw i (fun p => th.testBit p && Nat.beq (po p) oth) (fun _ => one) po)) (h' := mS b pre F G th pcs brs be (uN' ((pw i (fun p => th.testBit p && Nat.beq (po p) oth) (fun _ => one) po)) i (((pw i (fun p => th.testBit p && Nat.beq (po p) oth) (fun _ => one) po)) i)) ro kf bg en) rfl (mS_a10 hb) (by omega) (by decide) (mS_t10 hb) ?_
      refine wn_inc (lv' := [.ref b, .int (nI a), .int (nI bb), .int (nI num), .int (nI one), .int (nI oth), .int (nI sn), .int (nI le), .int (nI gr), .int (nI (i + 1)), x10]) rfl rfl rfl ?_
      refine wq_goto rfl ?_
      rw [pw_s (by rw [hpa, c348]; rfl)]
      exact ih (i + 1) (by omega) x10
