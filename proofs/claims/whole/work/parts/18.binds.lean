/-! the reference's story: bindsNear, joins -/
def bA (pcs : Nat) (kf : Nat → Nat → Nat) (one oth c x : Nat) : Bool := pcs.testBit x && !Nat.beq x one && !Nat.beq x oth && Nat.blt c (kf one x)
def bB (pcs : Nat) (kf : Nat → Nat → Nat) (one oth c x : Nat) : Bool := pcs.testBit x && !Nat.beq x one && !Nat.beq x oth && Nat.blt c (kf oth x)
theorem nbeq {a b : Nat} : (!Nat.beq a b) = true ↔ a ≠ b := by
  constructor
  · intro h e
    subst e
    simp at h
  · intro h
    cases q : Nat.beq a b
    · rfl
    · exact absurd (Nat.eq_of_beq_eq_true q) h
theorem nblt {a b : Nat} : Nat.blt a b = true ↔ a < b := by rw [Nat.blt_eq]
theorem bA_iff {pcs one oth c x : Nat} {kf : Nat → Nat → Nat} : bA pcs kf one oth c x = true ↔ pcs.testBit x = true ∧ x ≠ one ∧ x ≠ oth ∧ c < kf one x := by
  unfold bA
  rw [Bool.and_eq_true, Bool.and_eq_true, Bool.and_eq_true, nbeq, nbeq, nblt, and_assoc, and_assoc]
theorem bB_iff {pcs one oth c x : Nat} {kf : Nat → Nat → Nat} : bB pcs kf one oth c x = true ↔ pcs.testBit x = true ∧ x ≠ one ∧ x ≠ oth ∧ c < kf oth x := by
  unfold bB
  rw [Bool.and_eq_true, Bool.and_eq_true, Bool.and_eq_true, nbeq, nbeq, nblt, and_assoc, and_assoc]
def kb (pcs : Nat) (kf : Nat → Nat → Nat) (one oth c i j : Nat) : Nat → Nat → Nat := fun x y =>
  if bA pcs kf one oth c x = true ∧ bB pcs kf one oth c y = true ∧ (x < i ∨ (x = i ∧ y < j)) then min (kf one x) (kf oth y)
  else if bA pcs kf one oth c y = true ∧ bB pcs kf one oth c x = true ∧ (y < i ∨ (y = i ∧ x < j)) then min (kf one y) (kf oth x) else kf x y
theorem kb_0 (pcs : Nat) (kf : Nat → Nat → Nat) (one oth c : Nat) : kb pcs kf one oth c 0 0 = kf := by
  funext x y
  unfold kb
  rw [if_neg (by omega), if_neg (by omega)]
theorem kb_one {pcs : Nat} {kf : Nat → Nat → Nat} {one oth c i j x : Nat} : kb pcs kf one oth c i j one x = kf one x := by
  unfold kb
  rw [if_neg (fun q => (bA_iff.mp q.1).2.1 rfl), if_neg (fun q => (bB_iff.mp q.2.1).2.1 rfl)]
theorem kb_oth {pcs : Nat} {kf : Nat → Nat → Nat} {one oth c i j x : Nat} : kb pcs kf one oth c i j oth x = kf oth x := by
  unfold kb
  rw [if_neg (fun q => (bA_iff.mp q.1).2.2.1 rfl), if_neg (fun q => (bB_iff.mp q.2.1).2.2.1 rfl)]
theorem kb_t {pcs : Nat} {kf : Nat → Nat → Nat} {one oth c i j v : Nat} (hex : ∀ x, bA pcs kf one oth c x = true → bB pcs kf one oth c x = true → False) (hA : bA pcs kf one oth c i = true) (hB : bB pcs kf one oth c j = true) (hv : v = min (kf one i) (kf oth j)) : sK (kb pcs kf one oth c i j) i j v = kb pcs kf one oth c i (j + 1) := by
  funext x y
  unfold sK kb
  by_cases h1 : x = i ∧ y = j
  · obtain ⟨rfl, rfl⟩ := h1
    rw [if_pos (Or.inl ⟨rfl, rfl⟩), if_pos ⟨hA, hB, by omega⟩, hv]
  · by_cases h2 : x = j ∧ y = i
    · obtain ⟨rfl, rfl⟩ := h2
      rw [if_pos (Or.inr ⟨rfl, rfl⟩), if_neg (c := bA pcs kf one oth c x = true ∧ _) (fun q => hex x q.1 hB), if_pos ⟨hA, hB, by omega⟩, hv]
    · rw [if_neg (by omega)]
      have e1 : (x < i ∨ (x = i ∧ y < j)) ↔ (x < i ∨ (x = i ∧ y < j + 1)) := by omega
      have e2 : (y < i ∨ (y = i ∧ x < j)) ↔ (y < i ∨ (y = i ∧ x < j + 1)) := by omega
      simp only [e1, e2]
theorem kb_f {pcs : Nat} {kf : Nat → Nat → Nat} {one oth c i j : Nat} (hn : bA pcs kf one oth c i = true → bB pcs kf one oth c j = true → False) : kb pcs kf one oth c i j = kb pcs kf one oth c i (j + 1) := by
  funext x y
  unfold kb
  have e1 : (bA pcs kf one oth c x = true ∧ bB pcs kf one oth c y = true ∧ (x < i ∨ (x = i ∧ y < j))) ↔ (bA pcs kf one oth c x = true ∧ bB pcs kf one oth c y = true ∧ (x < i ∨ (x = i ∧ y < j + 1))) := by
    constructor
    · exact fun q => ⟨q.1, q.2.1, by omega⟩
    · intro q
      refine ⟨q.1, q.2.1, ?_⟩
      by_cases h : x = i ∧ y = j
      · obtain ⟨rfl, rfl⟩ := h
        exact (hn q.1 q.2.1).elim
      · omega
  have e2 : (bA pcs kf one oth c y = true ∧ bB pcs kf one oth c x = true ∧ (y < i ∨ (y = i ∧ x < j))) ↔ (bA pcs kf one oth c y = true ∧ bB pcs kf one oth c x = true ∧ (y < i ∨ (y = i ∧ x < j + 1))) := by
    constructor
    · exact fun q => ⟨q.1, q.2.1, by omega⟩
    · intro q
      refine ⟨q.1, q.2.1, ?_⟩
      by_cases h : y = i ∧ x = j
      · obtain ⟨rfl, rfl⟩ := h
        exact (hn q.1 q.2.1).elim
      · omega
  simp only [e1, e2]
theorem kb_row {pcs : Nat} {kf : Nat → Nat → Nat} {one oth c i : Nat} (hp : pcs < 512) : kb pcs kf one oth c i 9 = kb pcs kf one oth c (i + 1) 0 := by
  have hB : ∀ y, bB pcs kf one oth c y = true → y < 9 := fun y q => by
    rcases Nat.lt_or_ge y 9 with h | h
    · exact h
    · have h1 := (bB_iff.mp q).1
      rw [bit_lt (n := 9) hp h] at h1
      cases h1
  funext x y
  unfold kb
  have e1 : (bA pcs kf one oth c x = true ∧ bB pcs kf one oth c y = true ∧ (x < i ∨ (x = i ∧ y < 9))) ↔ (bA pcs kf one oth c x = true ∧ bB pcs kf one oth c y = true ∧ (x < i + 1 ∨ (x = i + 1 ∧ y < 0))) := by
    constructor
    · exact fun q => ⟨q.1, q.2.1, by omega⟩
    · exact fun q => ⟨q.1, q.2.1, by have := hB y q.2.1; omega⟩
  have e2 : (bA pcs kf one oth c y = true ∧ bB pcs kf one oth c x = true ∧ (y < i ∨ (y = i ∧ x < 9))) ↔ (bA pcs kf one oth c y = true ∧ bB pcs kf one oth c x = true ∧ (y < i + 1 ∨ (y = i + 1 ∧ x < 0))) := by
    constructor
    · exact fun q => ⟨q.1, q.2.1, by omega⟩
    · exact fun q => ⟨q.1, q.2.1, by have := hB x q.2.1; omega⟩
  simp only [e1, e2]
theorem l_S_binds1 {d b : Nat} {pre : mH} {F : Nat → Nat} {G : Nat → Nat → Nat} {th pcs brs : Nat} {be po ro bg en : Nat → Nat} {kf : Nat → Nat → Nat} {Q : Option Value → mH → Prop} (hb : pre.length = b) {one oth c : Nat} (h1 : one < 9) (h2 : oth < 9) (hc : c < 1000) (hp : pcs < 512) (hk : ∀ p q, p < 9 → q < 9 → kf p q < 1000) (hex : ∀ x, bA pcs kf one oth c x = true → bB pcs kf one oth c x = true → False) {i : Nat} (hi : i < 9) (k : ∀ av : Value, WP (Rn mprog (d + 1)) k_M_bindsNear none Q 157 [.ref b, .int (nI one), .int (nI oth), .int (nI c), .int (nI i), .int (nI 9), av] [] (mS b pre F G th pcs brs be po ro (kb pcs kf one oth c i 9) bg en)) : ∀ (n j : Nat) (av : Value), j + n = 9 → True = True → WP (Rn mprog (d + 1)) k_M_bindsNear none Q 13 [.ref b, .int (nI one), .int (nI oth), .int (nI c), .int (nI i), .int (nI j), av] [] (mS b pre F G th pcs brs be po ro (kb pcs kf one oth c i j) bg en) := by
  intro n
  induction n with
  | zero =>
    intro j av hj _
    have hj9 : j = 9 := by omega
    subst hj9
    refine wq_iload rfl rfl ?_
    refine wq_bipush (v := nI 9) rfl (by decide) ?_
    refine wq_ic_ge rfl (fun _ => ?_) (fun c => absurd c (by decide))
    exact k _
  | succ n ih =>
    intro j av hj _
    have hk1 := hk one i h1 hi
    have hk2 := hk oth j h2 (by omega)
    refine wq_iload rfl rfl ?_
    refine wq_bipush (v := nI 9) rfl (by decide) ?_
    refine wn_ic_ge rfl (by omega) (by omega) (fun c17 => absurd c17 (by omega)) (fun c17 => ?_)
    refine wq_aload_n rfl rfl ?_
    refine wq_getfield (v := .int (nI pcs)) rfl (mS_o hb) rfl ?_
    refine wq_iload rfl rfl ?_
    refine wq_stat (a := [.int (nI pcs), .int (nI i)]) (rest := []) rfl rfl rfl rfl rfl ?_
    refine r_M_has (by omega) (by omega) (fun c26 => ?_) (fun c26 => ?_)
    · skip
      show WP _ _ _ _ 29 [.ref b, .int (nI one), .int (nI oth), .int (nI c), .int (nI i), .int (nI j), av] [.int (nI 1)] (mS b pre F G th pcs brs be po ro (kb pcs kf one oth c i j) bg en)
      refine wq_if_eq rfl (fun c => absurd c (by decide)) (fun _ => ?_)
      refine wq_aload_n rfl rfl ?_
      refine wq_getfield (v := .int (nI pcs)) rfl (mS_o hb) rfl ?_
      refine wq_iload rfl rfl ?_
      refine wq_stat (a := [.int (nI pcs), .int (nI j)]) (rest := []) rfl rfl rfl rfl rfl ?_
      refine r_M_has (by omega) (by omega) (fun c38 => ?_) (fun c38 => ?_)
      · skip
        show WP _ _ _ _ 41 [.ref b, .int (nI one), .int (nI oth), .int (nI c), .int (nI i), .int (nI j), av] [.int (nI 1)] (mS b pre F G th pcs brs be po ro (kb pcs kf one oth c i j) bg en)
        refine wq_if_eq rfl (fun c => absurd c (by decide)) (fun _ => ?_)
        refine wq_iload rfl rfl ?_
        refine wq_iload rfl rfl ?_
        refine wn_ic_eq rfl (by omega) (by omega) (fun c48 => ?_) (fun c48 => ?_)
        · skip
          refine wq_iconst (v := nI 0) rfl (by decide) ?_
          refine wq_istore (lv' := [.ref b, .int (nI one), .int (nI oth), .int (nI c), .int (nI i), .int (nI j), .int (nI 0)]) rfl rfl rfl ?_
          refine wq_iload rfl rfl ?_
          refine wq_if_eq rfl (fun _ => ?_) (fun c => absurd c (by decide))
          refine wn_inc (lv' := [.ref b, .int (nI one), .int (nI oth), .int (nI c), .int (nI i), .int (nI (j + 1)), .int (nI 0)]) rfl rfl rfl ?_
          refine wq_goto rfl ?_
          rw [kb_f (i := i) (j := j) (fun hA hB => by exact hex i hA (by rw [c48]; exact hB))]
          exact ih (j + 1) _ (by omega) (by rfl)
        · skip
          refine wq_iload rfl rfl ?_
          refine wq_iload_n rfl rfl ?_
          refine wn_ic_eq rfl (by omega) (by omega) (fun c54 => ?_) (fun c54 => ?_)
          · skip
            refine wq_iconst (v := nI 0) rfl (by decide) ?_
            refine wq_istore (lv' := [.ref b, .int (nI one), .int (nI oth), .int (nI c), .int (nI i), .int (nI j), .int (nI 0)]) rfl rfl rfl ?_
            refine wq_iload rfl rfl ?_
            refine wq_if_eq rfl (fun _ => ?_) (fun c => absurd c (by decide))
            refine wn_inc (lv' := [.ref b, .int (nI one), .int (nI oth), .int (nI c), .int (nI i), .int (nI (j + 1)), .int (nI 0)]) rfl rfl rfl ?_
            refine wq_goto rfl ?_
            rw [kb_f (i := i) (j := j) (fun hA hB => by exact (bA_iff.mp hA).2.1 c54)]
            exact ih (j + 1) _ (by omega) (by rfl)
          · skip
            refine wq_iload rfl rfl ?_
            refine wq_iload_n rfl rfl ?_
            refine wn_ic_eq rfl (by omega) (by omega) (fun c60 => ?_) (fun c60 => ?_)
            · skip
              refine wq_iconst (v := nI 0) rfl (by decide) ?_
              refine wq_istore (lv' := [.ref b, .int (nI one), .int (nI oth), .int (nI c), .int (nI i), .int (nI j), .int (nI 0)]) rfl rfl rfl ?_
              refine wq_iload rfl rfl ?_
              refine wq_if_eq rfl (fun _ => ?_) (fun c => absurd c (by decide))
              refine wn_inc (lv' := [.ref b, .int (nI one), .int (nI oth), .int (nI c), .int (nI i), .int (nI (j + 1)), .int (nI 0)]) rfl rfl rfl ?_
              refine wq_goto rfl ?_
              rw [kb_f (i := i) (j := j) (fun hA hB => by exact (bA_iff.mp hA).2.2.1 c60)]
              exact ih (j + 1) _ (by omega) (by rfl)
            · skip
              refine wq_iload rfl rfl ?_
              refine wq_iload_n rfl rfl ?_
              refine wn_ic_eq rfl (by omega) (by omega) (fun c66 => ?_) (fun c66 => ?_)
              · skip
                refine wq_iconst (v := nI 0) rfl (by decide) ?_
                refine wq_istore (lv' := [.ref b, .int (nI one), .int (nI oth), .int (nI c), .int (nI i), .int (nI j), .int (nI 0)]) rfl rfl rfl ?_
                refine wq_iload rfl rfl ?_
                refine wq_if_eq rfl (fun _ => ?_) (fun c => absurd c (by decide))
                refine wn_inc (lv' := [.ref b, .int (nI one), .int (nI oth), .int (nI c), .int (nI i), .int (nI (j + 1)), .int (nI 0)]) rfl rfl rfl ?_
                refine wq_goto rfl ?_
                rw [kb_f (i := i) (j := j) (fun hA hB => by exact (bB_iff.mp hB).2.1 c66)]
                exact ih (j + 1) _ (by omega) (by rfl)
              · skip
                refine wq_iload rfl rfl ?_
                refine wq_iload_n rfl rfl ?_
                refine wn_ic_eq rfl (by omega) (by omega) (fun c72 => ?_) (fun c72 => ?_)
                · skip
                  refine wq_iconst (v := nI 0) rfl (by decide) ?_
                  refine wq_istore (lv' := [.ref b, .int (nI one), .int (nI oth), .int (nI c), .int (nI i), .int (nI j), .int (nI 0)]) rfl rfl rfl ?_
                  refine wq_iload rfl rfl ?_
                  refine wq_if_eq rfl (fun _ => ?_) (fun c => absurd c (by decide))
                  refine wn_inc (lv' := [.ref b, .int (nI one), .int (nI oth), .int (nI c), .int (nI i), .int (nI (j + 1)), .int (nI 0)]) rfl rfl rfl ?_
                  refine wq_goto rfl ?_
                  rw [kb_f (i := i) (j := j) (fun hA hB => by exact (bB_iff.mp hB).2.2.1 c72)]
                  exact ih (j + 1) _ (by omega) (by rfl)
                · skip
                  refine wq_iconst (v := nI 1) rfl (by decide) ?_
                  refine wq_goto rfl ?_
                  refine wq_istore (lv' := [.ref b, .int (nI one), .int (nI oth), .int (nI c), .int (nI i), .int (nI j), .int (nI 1)]) rfl rfl rfl ?_
                  refine wq_iload rfl rfl ?_
                  refine wq_if_eq rfl (fun c => absurd c (by decide)) (fun _ => ?_)
                  refine wq_aload_n rfl rfl ?_
                  refine wq_iload_n rfl rfl ?_
                  refine wq_iload rfl rfl ?_
                  refine wq_virt (b := b) (a := [.int (nI one), .int (nI i)]) (rest := []) rfl rfl rfl rfl rfl (mS_o hb) ?_
                  refine r_S_kinOf hb (by omega) (by omega) ?_
                  rw [kb_one]
                  show WP _ _ _ _ 94 [.ref b, .int (nI one), .int (nI oth), .int (nI c), .int (nI i), .int (nI j), .int (nI 1)] [.int (nI (kf one i))] (mS b pre F G th pcs brs be po ro (kb pcs kf one oth c i j) bg en)
                  refine wq_iload_n rfl rfl ?_
                  refine wn_ic_le rfl (by omega) (by omega) (fun c95 => ?_) (fun c95 => ?_)
                  · skip
                    refine wn_inc (lv' := [.ref b, .int (nI one), .int (nI oth), .int (nI c), .int (nI i), .int (nI (j + 1)), .int (nI 1)]) rfl rfl rfl ?_
                    refine wq_goto rfl ?_
                    rw [kb_f (i := i) (j := j) (fun hA hB => by have := (bA_iff.mp hA).2.2.2; omega)]
                    exact ih (j + 1) _ (by omega) (by rfl)
                  · skip
                    refine wq_aload_n rfl rfl ?_
                    refine wq_iload_n rfl rfl ?_
                    refine wq_iload rfl rfl ?_
                    refine wq_virt (b := b) (a := [.int (nI oth), .int (nI j)]) (rest := []) rfl rfl rfl rfl rfl (mS_o hb) ?_
                    refine r_S_kinOf hb (by omega) (by omega) ?_
                    rw [kb_oth]
                    show WP _ _ _ _ 105 [.ref b, .int (nI one), .int (nI oth), .int (nI c), .int (nI i), .int (nI j), .int (nI 1)] [.int (nI (kf oth j))] (mS b pre F G th pcs brs be po ro (kb pcs kf one oth c i j) bg en)
                    refine wq_iload_n rfl rfl ?_
                    refine wn_ic_le rfl (by omega) (by omega) (fun c106 => ?_) (fun c106 => ?_)
                    · skip
                      refine wn_inc (lv' := [.ref b, .int (nI one), .int (nI oth), .int (nI c), .int (nI i), .int (nI (j + 1)), .int (nI 1)]) rfl rfl rfl ?_
                      refine wq_goto rfl ?_
                      rw [kb_f (i := i) (j := j) (fun hA hB => by have := (bB_iff.mp hB).2.2.2; omega)]
                      exact ih (j + 1) _ (by omega) (by rfl)
                    · skip
                      refine wq_aload_n rfl rfl ?_
                      refine wq_iload rfl rfl ?_
                      refine wq_iload rfl rfl ?_
                      refine wq_aload_n rfl rfl ?_
                      refine wq_iload_n rfl rfl ?_
                      refine wq_iload rfl rfl ?_
                      refine wq_virt (b := b) (a := [.int (nI one), .int (nI i)]) (rest := [.int (nI j), .int (nI i), .ref b]) rfl rfl rfl rfl rfl (mS_o hb) ?_
                      refine r_S_kinOf hb (by omega) (by omega) ?_
                      rw [kb_one]
                      show WP _ _ _ _ 121 [.ref b, .int (nI one), .int (nI oth), .int (nI c), .int (nI i), .int (nI j), .int (nI 1)] [.int (nI (kf one i)), .int (nI j), .int (nI i), .ref b] (mS b pre F G th pcs brs be po ro (kb pcs kf one oth c i j) bg en)
                      refine wq_aload_n rfl rfl ?_
                      refine wq_iload_n rfl rfl ?_
                      refine wq_iload rfl rfl ?_
                      refine wq_virt (b := b) (a := [.int (nI oth), .int (nI j)]) (rest := [.int (nI (kf one i)), .int (nI j), .int (nI i), .ref b]) rfl rfl rfl rfl rfl (mS_o hb) ?_
                      refine r_S_kinOf hb (by omega) (by omega) ?_
                      rw [kb_oth]
                      show WP _ _ _ _ 128 [.ref b, .int (nI one), .int (nI oth), .int (nI c), .int (nI i), .int (nI j), .int (nI 1)] [.int (nI (kf oth j)), .int (nI (kf one i)), .int (nI j), .int (nI i), .ref b] (mS b pre F G th pcs brs be po ro (kb pcs kf one oth c i j) bg en)
                      refine wn_ic_ge rfl (by omega) (by omega) (fun c128 => ?_) (fun c128 => ?_)
                      · skip
                        refine wq_aload_n rfl rfl ?_
                        refine wq_iload_n rfl rfl ?_
                        refine wq_iload rfl rfl ?_
                        refine wq_virt (b := b) (a := [.int (nI oth), .int (nI j)]) (rest := [.int (nI j), .int (nI i), .ref b]) rfl rfl rfl rfl rfl (mS_o hb) ?_
                        refine r_S_kinOf hb (by omega) (by omega) ?_
                        rw [kb_oth]
                        show WP _ _ _ _ 148 [.ref b, .int (nI one), .int (nI oth), .int (nI c), .int (nI i), .int (nI j), .int (nI 1)] [.int (nI (kf oth j)), .int (nI j), .int (nI i), .ref b] (mS b pre F G th pcs brs be po ro (kb pcs kf one oth c i j) bg en)
                        refine wq_virt (b := b) (a := [.int (nI i), .int (nI j), .int (nI (kf oth j))]) (rest := []) rfl rfl rfl rfl rfl (mS_o hb) ?_
                        refine r_S_makesKin hb (by omega) (by omega) ?_
                        show WP _ _ _ _ 151 [.ref b, .int (nI one), .int (nI oth), .int (nI c), .int (nI i), .int (nI j), .int (nI 1)] [] (mS b pre F G th pcs brs be po ro (sK (kb pcs kf one oth c i j) i j (kf oth j)) bg en)
                        refine wn_inc (lv' := [.ref b, .int (nI one), .int (nI oth), .int (nI c), .int (nI i), .int (nI (j + 1)), .int (nI 1)]) rfl rfl rfl ?_
                        refine wq_goto rfl ?_
                        rw [kb_t hex (bA_iff.mpr ⟨c26, c54, c60, c95⟩) (bB_iff.mpr ⟨c38, c66, c72, c106⟩) (by omega)]
                        exact ih (j + 1) _ (by omega) (by rfl)
                      · skip
                        refine wq_aload_n rfl rfl ?_
                        refine wq_iload_n rfl rfl ?_
                        refine wq_iload rfl rfl ?_
                        refine wq_virt (b := b) (a := [.int (nI one), .int (nI i)]) (rest := [.int (nI j), .int (nI i), .ref b]) rfl rfl rfl rfl rfl (mS_o hb) ?_
                        refine r_S_kinOf hb (by omega) (by omega) ?_
                        rw [kb_one]
                        show WP _ _ _ _ 138 [.ref b, .int (nI one), .int (nI oth), .int (nI c), .int (nI i), .int (nI j), .int (nI 1)] [.int (nI (kf one i)), .int (nI j), .int (nI i), .ref b] (mS b pre F G th pcs brs be po ro (kb pcs kf one oth c i j) bg en)
                        refine wq_goto rfl ?_
                        refine wq_virt (b := b) (a := [.int (nI i), .int (nI j), .int (nI (kf one i))]) (rest := []) rfl rfl rfl rfl rfl (mS_o hb) ?_
                        refine r_S_makesKin hb (by omega) (by omega) ?_
                        show WP _ _ _ _ 151 [.ref b, .int (nI one), .int (nI oth), .int (nI c), .int (nI i), .int (nI j), .int (nI 1)] [] (mS b pre F G th pcs brs be po ro (sK (kb pcs kf one oth c i j) i j (kf one i)) bg en)
                        refine wn_inc (lv' := [.ref b, .int (nI one), .int (nI oth), .int (nI c), .int (nI i), .int (nI (j + 1)), .int (nI 1)]) rfl rfl rfl ?_
                        refine wq_goto rfl ?_
                        rw [kb_t hex (bA_iff.mpr ⟨c26, c54, c60, c95⟩) (bB_iff.mpr ⟨c38, c66, c72, c106⟩) (by omega)]
                        exact ih (j + 1) _ (by omega) (by rfl)
      · skip
        show WP _ _ _ _ 41 [.ref b, .int (nI one), .int (nI oth), .int (nI c), .int (nI i), .int (nI j), av] [.int (nI 0)] (mS b pre F G th pcs brs be po ro (kb pcs kf one oth c i j) bg en)
        refine wq_if_eq rfl (fun _ => ?_) (fun c => absurd c (by decide))
        refine wq_iconst (v := nI 0) rfl (by decide) ?_
        refine wq_istore (lv' := [.ref b, .int (nI one), .int (nI oth), .int (nI c), .int (nI i), .int (nI j), .int (nI 0)]) rfl rfl rfl ?_
        refine wq_iload rfl rfl ?_
        refine wq_if_eq rfl (fun _ => ?_) (fun c => absurd c (by decide))
        refine wn_inc (lv' := [.ref b, .int (nI one), .int (nI oth), .int (nI c), .int (nI i), .int (nI (j + 1)), .int (nI 0)]) rfl rfl rfl ?_
        refine wq_goto rfl ?_
        rw [kb_f (i := i) (j := j) (fun hA hB => by exact absurd (bB_iff.mp hB).1 (by rw [c38]; decide))]
        exact ih (j + 1) _ (by omega) (by rfl)
    · skip
      show WP _ _ _ _ 29 [.ref b, .int (nI one), .int (nI oth), .int (nI c), .int (nI i), .int (nI j), av] [.int (nI 0)] (mS b pre F G th pcs brs be po ro (kb pcs kf one oth c i j) bg en)
      refine wq_if_eq rfl (fun _ => ?_) (fun c => absurd c (by decide))
      refine wq_iconst (v := nI 0) rfl (by decide) ?_
      refine wq_istore (lv' := [.ref b, .int (nI one), .int (nI oth), .int (nI c), .int (nI i), .int (nI j), .int (nI 0)]) rfl rfl rfl ?_
      refine wq_iload rfl rfl ?_
      refine wq_if_eq rfl (fun _ => ?_) (fun c => absurd c (by decide))
      refine wn_inc (lv' := [.ref b, .int (nI one), .int (nI oth), .int (nI c), .int (nI i), .int (nI (j + 1)), .int (nI 0)]) rfl rfl rfl ?_
      refine wq_goto rfl ?_
      rw [kb_f (i := i) (j := j) (fun hA hB => by exact absurd (bA_iff.mp hA).1 (by rw [c26]; decide))]
      exact ih (j + 1) _ (by omega) (by rfl)
theorem l_S_binds2 {d b : Nat} {pre : mH} {F : Nat → Nat} {G : Nat → Nat → Nat} {th pcs brs : Nat} {be po ro bg en : Nat → Nat} {kf : Nat → Nat → Nat} {Q : Option Value → mH → Prop} (hb : pre.length = b) {one oth c : Nat} (h1 : one < 9) (h2 : oth < 9) (hc : c < 1000) (hp : pcs < 512) (hk : ∀ p q, p < 9 → q < 9 → kf p q < 1000) (hex : ∀ x, bA pcs kf one oth c x = true → bB pcs kf one oth c x = true → False) (hQ : Q none (mS b pre F G th pcs brs be po ro (kb pcs kf one oth c 9 0) bg en)) : ∀ (n i : Nat) (jv av : Value), i + n = 9 → WP (Rn mprog (d + 1)) k_M_bindsNear none Q 3 [.ref b, .int (nI one), .int (nI oth), .int (nI c), .int (nI i), jv, av] [] (mS b pre F G th pcs brs be po ro (kb pcs kf one oth c i 0) bg en) := by
  intro n
  induction n with
  | zero =>
    intro i jv av hi
    have hi9 : i = 9 := by omega
    subst hi9
    refine wq_iload rfl rfl ?_
    refine wq_bipush (v := nI 9) rfl (by decide) ?_
    refine wq_ic_ge rfl (fun _ => ?_) (fun c => absurd c (by decide))
    refine wq_vret rfl rfl ?_
    exact hQ
  | succ n ih =>
    intro i jv av hi
    refine wq_iload rfl rfl ?_
    refine wq_bipush (v := nI 9) rfl (by decide) ?_
    refine wn_ic_ge rfl (by omega) (by omega) (fun c7 => absurd c7 (by omega)) (fun c7 => ?_)
    refine wq_iconst (v := nI 0) rfl (by decide) ?_
    refine wq_istore (lv' := [.ref b, .int (nI one), .int (nI oth), .int (nI c), .int (nI i), .int (nI 0), av]) rfl rfl rfl ?_
    refine l_S_binds1 hb h1 h2 hc hp hk hex (i := i) (by omega) (fun av => ?_) 9 0 av rfl rfl
    refine wn_inc (lv' := [.ref b, .int (nI one), .int (nI oth), .int (nI c), .int (nI (i + 1)), .int (nI 9), av]) rfl rfl rfl ?_
    refine wq_goto rfl ?_
    rw [kb_row hp]
    exact ih (i + 1) _ _ (by omega)
theorem r_S_binds {d b : Nat} {pre : mH} {F : Nat → Nat} {G : Nat → Nat → Nat} {th pcs brs : Nat} {be po ro bg en : Nat → Nat} {kf : Nat → Nat → Nat} {Q : Option Value → mH → Prop} (hb : pre.length = b) {one oth c : Nat} (h1 : one < 9) (h2 : oth < 9) (hc : c < 1000) (hp : pcs < 512) (hk : ∀ p q, p < 9 → q < 9 → kf p q < 1000) (hex : ∀ x, bA pcs kf one oth c x = true → bB pcs kf one oth c x = true → False) (hQ : Q none (mS b pre F G th pcs brs be po ro (kb pcs kf one oth c 9 0) bg en)) : Rn mprog (d + 2) n_M_bindsNear [.ref b, .int (nI one), .int (nI oth), .int (nI c)] (mS b pre F G th pcs brs be po ro kf bg en) Q := by
  refine Rn.in rfl rfl rfl ?_
  show WP _ _ _ _ 0 [.ref b, .int (nI one), .int (nI oth), .int (nI c), .long 0, .long 0, .long 0] [] (mS b pre F G th pcs brs be po ro kf bg en)
  refine wq_iconst (v := nI 0) rfl (by decide) ?_
  refine wq_istore (lv' := [.ref b, .int (nI one), .int (nI oth), .int (nI c), .int (nI 0), .long 0, .long 0]) rfl rfl rfl ?_
  have q := l_S_binds2 (d := d) hb h1 h2 hc hp hk hex hQ 9 0 (.long 0) (.long 0) rfl
  rw [kb_0] at q
  exact q
