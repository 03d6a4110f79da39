theorem may0 {th A B : Nat} {be : Nat → Nat} (h : mayB th be 0 A B = true) : th.testBit A = false := by
  unfold mayB at h
  rw [if_pos rfl] at h
  cases q : th.testBit A
  · rfl
  · rw [q] at h; cases h
theorem may1 {th A B : Nat} {be : Nat → Nat} (h : mayB th be 1 A B = true) : th.testBit A = true ∧ be A = 0 := by
  unfold mayB at h
  rw [if_neg (by decide), if_pos rfl, Bool.and_eq_true, decide_eq_true_eq] at h
  exact h
theorem may2 {th A B : Nat} {be : Nat → Nat} (h : mayB th be 2 A B = true) : A ≠ B ∧ th.testBit A = true ∧ th.testBit B = true ∧ (be A).testBit B = false := by
  unfold mayB at h
  rw [if_neg (by decide), if_neg (by decide), if_pos rfl, Bool.and_eq_true, Bool.and_eq_true, Bool.and_eq_true, decide_eq_true_eq] at h
  refine ⟨h.1.1.1, h.1.1.2, h.1.2, ?_⟩
  have h2 := h.2
  cases q : (be A).testBit B
  · rfl
  · rw [q] at h2; cases h2
theorem may3 {th A B : Nat} {be : Nat → Nat} (h : mayB th be 3 A B = true) : (be A).testBit B = true := by
  unfold mayB at h
  rw [if_neg (by decide), if_neg (by decide), if_neg (by decide)] at h
  exact h
theorem mem_snoc {α : Type} {l : List α} {x y : α} (h : x ∈ l ++ [y]) : x ∈ l ∨ x = y := by
  rcases List.mem_append.mp h with h | h
  · exact Or.inl h
  · exact Or.inr (List.mem_singleton.mp h)
/-- the piece of A by the joined graph, by bits -/
theorem pOf_J {nr : Nat → Nat} (g : Gr nr) {A : Nat} (hA : A < 9) : ∀ x, (pOf nr A).testBit x = true ↔ cn nr A x := fun x => pOf_bit g hA
theorem lR_wv {J : Nat} {a b : Nat → Nat} {x : Nat} : lR J (wv J a) (wv J b) x = true ↔ J.testBit x = true ∨ 0 < a x ∨ 0 < b x := by
  rw [lR_iff]
  unfold wv
  by_cases z : J.testBit x = true
  · simp [z]
  · simp [z]
set_option maxHeartbeats 1000000 in
theorem TV_step {ac k : Nat} {τ : TT} (h : TV τ k) (ha : AV ac) (hm : mayB τ.1 τ.2.2.1 (ac >>> 8) (ac >>> 4 &&& 15) (ac &&& 15) = true) : TV (tS ac (k + 1) τ) (k + 1) := by
  obtain ⟨pts, edg, nr, rt, sc, bs⟩ := τ
  obtain ⟨hT, hE, ⟨po, pcs, hL, hc⟩, hb⟩ := h
  obtain ⟨a1, hA, hB, hab⟩ := ha
  have hk4 : ac >>> 8 < 4 := by rw [Nat.shiftRight_eq_div_pow]; omega
  dsimp only at hT hE hL hc hb hm
  have hG := hT.2.1
  have hsck := hT.2.2.2.2.2.2.2.2.1
  have hrtk := hT.2.2.2.2.2.2.2.2.2.1
  have hrt1 := hT.2.2.2.2.2.2.2.2.2.2
  have hbk : ∀ x ∈ bs, 1 ≤ x.1 ∧ x.1 ≤ k + 1 ∧ 1 ≤ x.2 ∧ x.2 ≤ k + 1 := fun x hx => by
    have := hb x hx
    omega
  unfold tS
  dsimp only
  generalize eA : ac >>> 4 &&& 15 = A at *
  generalize eB : ac &&& 15 = B at *
  generalize eK : ac >>> 8 = κ at *
  rcases (show κ = 0 ∨ κ = 1 ∨ κ = 2 ∨ κ = 3 by omega) with e | e | e | e
  · subst e
    rw [if_pos rfl]
    have hn := may0 hm
    have iso := TI_iso hT hA hn
    obtain ⟨l, hl, hlb⟩ := Lab_freeE hL (Or.inl ⟨A, hA, hn⟩)
    refine ⟨TI_come hT hA hn, hE, ⟨_, _, Lab_come hL hG hA hn iso hl hlb, ?_⟩, hbk⟩
    rw [popc_or hlb 9 hl]
    dsimp only
    omega
  · subst e
    rw [if_neg (by decide), if_pos rfl]
    obtain ⟨hin, hn0⟩ := may1 hm
    have iso : ∀ t, (nr A).testBit t = false := fun t => by rw [hn0]; exact Nat.zero_testBit t
    refine ⟨TI_go hT hA hin hn0, hE, ⟨_, _, Lab_go hL hG hA hin iso, ?_⟩, fun x hx => ?_⟩
    · have := popc_nd (hL.2.1 A hA) (hL.2.2.1 A hA hin)
      dsimp only
      rw [List.length_append, List.length_singleton]
      omega
    · rcases mem_snoc hx with hx | hx
      · exact hbk x hx
      · subst hx
        dsimp only
        have h1 := mxS_b (oth := pts ^^^ 1 <<< A) (m := k) (r := sc A) (fun q hq => hsck A q hA hq)
        have h2 := hrtk A hA
        have h3 := hrt1 A hA hin
        unfold bG
        split <;> omega
  · subst e
    rw [if_neg (by decide), if_neg (by decide), if_pos rfl]
    obtain ⟨hne, pA, pB, hnb⟩ := may2 hm
    have g' := nrX_Gr hG hA hB hne
    have hx := nrX_on hG hA hB hne hnb
    have hsum := esum_on hG hA hB hne hnb
    have hsub : ∀ p q, p < 9 → (nrX nr A B p).testBit q = true → pts.testBit p = true := fun p q hp hb2 => by
      rcases (hx p q hp).mp hb2 with r | ⟨r, -⟩ | ⟨r, -⟩
      · exact hT.2.2.1 p q hp r
      · rw [r]; exact pA
      · rw [r]; exact pB
    split
    next hcn =>
      have hcn := (pOf_bit hG hA).mp hcn
      have hs : ∀ p q, p < 9 → (cn (nrX nr A B) p q ↔ cn nr p q) := fun p q hp => cn_loop hG g' hA hB hx hcn hp
      exact ⟨TI_same hT g' hsub hs, by show 2 * (edg + 1) = esum (nrX nr A B) 9; rw [hsum]; omega, ⟨po, pcs, Lab_same hL hs, Nat.le_succ_of_le hc⟩, hbk⟩
    next hcn =>
      have hcn : ¬ cn nr A B := fun z => hcn ((pOf_bit hG hA).mpr z)
      have hpo : po A ≠ po B := fun z => hcn ((hL.2.2.2.2 A B hA hB pA pB).mp z)
      refine ⟨?_, by show 2 * (edg + 1) = esum (nrX nr A B) 9; rw [hsum]; omega, ⟨_, _, Lab_join hL hG g' hA hB hx pA pB hpo, ?_⟩, fun x hx => ?_⟩
      · refine TI_join hT g' hA hB hx hcn pA pB (pOf_J g' hA) (fun x y h1 h2 => sj_scJ h1 h2) (fun x h1 => ?_)
        dsimp only
        by_cases m0 : sc A B = 0
        · rw [if_pos m0, if_pos m0]
          unfold pw
          by_cases z : (pOf (nrX nr A B) A).testBit x = true ∨ 0 < sc A x ∨ 0 < sc B x
          · rw [if_pos ⟨h1, lR_wv.mpr z⟩, if_pos z]
          · rw [if_neg (fun y => z (lR_wv.mp y.2)), if_neg z]
        · rw [if_neg m0, if_neg m0]
      · have := popc_nd (hL.2.1 B hB) (hL.2.2.1 B hB pB)
        dsimp only
        rw [List.length_append, List.length_singleton]
        omega
      · rcases mem_snoc hx with hx | hx
        · exact hbk x hx
        · subst hx
          dsimp only
          have h1 := hsck A B hA hB
          have h2 := hrtk A hA
          have h3 := hrt1 A hA pA
          have h4 := hrtk B hB
          unfold bG
          split <;> omega
  · subst e
    rw [if_neg (by decide), if_neg (by decide), if_neg (by decide)]
    have hnb := may3 hm
    have hne : A ≠ B := fun z => by rw [← z, hG.2.2 A hA] at hnb; cases hnb
    have g' := nrX_Gr hG hA hB hne
    have hx := nrX_off hG hA hB hne hnb
    have hsum := esum_off hG hA hB hne hnb
    have pA := hT.2.2.1 A B hA hnb
    have pB := hT.2.2.1 B A hB (hG.2.1 A B hA hB hnb)
    have hsub : ∀ p q, p < 9 → (nrX nr A B p).testBit q = true → pts.testBit p = true := fun p q hp hb2 => hT.2.2.1 p q hp ((hx p q hp).mpr (Or.inl hb2))
    split
    next hcn =>
      have hcn := (pOf_bit g' hA).mp hcn
      have hs : ∀ p q, p < 9 → (cn (nrX nr A B) p q ↔ cn nr p q) := fun p q hp => (cn_loop g' hG hA hB hx hcn hp).symm
      exact ⟨TI_same hT g' hsub hs, by show 2 * (edg - 1) = esum (nrX nr A B) 9; omega, ⟨po, pcs, Lab_same hL hs, Nat.le_succ_of_le hc⟩, hbk⟩
    next hcn =>
      have hcn : ¬ cn (nrX nr A B) A B := fun z => hcn ((pOf_bit g' hA).mpr z)
      have hAB : cn nr A B := cn_edge hA hnb
      obtain ⟨l, hl, hlb⟩ := Lab_freeE hL (Or.inr ⟨A, B, hA, hB, hne, pA, pB, (hL.2.2.2.2 A B hA hB pA pB).mpr hAB⟩)
      refine ⟨TI_part hT g' hA hB hx hcn (pOf_J g' hA) (pOf_J g' hB), by show 2 * (edg - 1) = esum (nrX nr A B) 9; omega, ⟨_, _, Lab_part (R := pOf (nrX nr A B) B) hL hG g' hA hB hx pA pB hcn (pOf_J g' hB) hl hlb, ?_⟩, hbk⟩
      rw [popc_or hlb 9 hl]
      dsimp only
      omega
