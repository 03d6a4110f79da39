/-! What holds of a story: kin is an ultrametric on pieces -/
def TI (pts : Nat) (nr rt : Nat → Nat) (sc : Nat → Nat → Nat) (k : Nat) : Prop :=
  pts < 512 ∧ Gr nr ∧ (∀ p q, p < 9 → (nr p).testBit q = true → pts.testBit p = true) ∧
  (∀ p q, p < 9 → q < 9 → sc p q = sc q p) ∧
  (∀ p q, p < 9 → q < 9 → 0 < sc p q → pts.testBit p = true ∧ ¬ cn nr p q) ∧
  (∀ p p' q, p < 9 → p' < 9 → q < 9 → cn nr p p' → sc p q = sc p' q) ∧
  (∀ p q r, p < 9 → q < 9 → r < 9 → ¬ cn nr p r → min (sc p q) (sc q r) ≤ sc p r) ∧
  (∀ p q, p < 9 → q < 9 → (cn nr p q ∨ 0 < sc p q) → rt p = rt q) ∧
  (∀ p q, p < 9 → q < 9 → sc p q ≤ k) ∧ (∀ p, p < 9 → rt p ≤ k) ∧ ∀ p, p < 9 → pts.testBit p = true → 1 ≤ rt p
theorem cn_iso {nr : Nat → Nat} {A q : Nat} (h : ∀ t, (nr A).testBit t = false) (hc : cn nr A q) : q = A := by
  have h1 := hc (1 <<< A) (by simp [sh_bit]) (fun x _ hx t ht => by
    rw [sh_bit, decide_eq_true_eq] at hx
    rw [hx, h t] at ht
    cases ht)
  rw [sh_bit, decide_eq_true_eq] at h1
  exact h1
theorem TI_0 {nr rt : Nat → Nat} {sc : Nat → Nat → Nat} (h1 : ∀ p, p < 9 → nr p = 0) (h2 : ∀ p, p < 9 → rt p = 0) (h3 : ∀ p q, p < 9 → q < 9 → sc p q = 0) : TI 0 nr rt sc 0 := by
  have z : ∀ t, ¬ (0 : Nat).testBit t = true := fun t => by rw [Nat.zero_testBit]; decide
  refine ⟨by decide, ⟨fun p hp => by rw [h1 p hp]; decide, fun p q hp _ h => ?_, fun p hp => by rw [h1 p hp]; exact Nat.zero_testBit p⟩, fun p q hp h => ?_, fun p q hp hq => by rw [h3 p q hp hq, h3 q p hq hp], fun p q hp hq h => ?_, fun p p' q hp hp' hq _ => by rw [h3 p q hp hq, h3 p' q hp' hq], fun p q r hp hq hr _ => by rw [h3 p q hp hq]; omega, fun p q hp hq _ => by rw [h2 p hp, h2 q hq], fun p q hp hq => by rw [h3 p q hp hq]; exact Nat.le_refl 0, fun p hp => by rw [h2 p hp]; exact Nat.le_refl 0, fun p _ h => absurd h (z _)⟩
  · rw [h1 p hp] at h
    exact absurd h (z _)
  · rw [h1 p hp] at h
    exact absurd h (z _)
  · rw [h3 p q hp hq] at h
    omega
theorem xor_bit {pts A t : Nat} : (pts ^^^ 1 <<< A).testBit t = (pts.testBit t ^^ decide (t = A)) := by rw [Nat.testBit_xor, sh_bit]
theorem xor_lt {pts A : Nat} (h : pts < 512) (hA : A < 9) : pts ^^^ 1 <<< A < 512 := Nat.xor_lt_two_pow (n := 9) h (sh_lt hA)
theorem TI_iso {pts A : Nat} {nr rt : Nat → Nat} {sc : Nat → Nat → Nat} {k : Nat} (h : TI pts nr rt sc k) (hA : A < 9) (ha : pts.testBit A = false) : ∀ t, (nr A).testBit t = false := fun t => by
  cases e : (nr A).testBit t
  · rfl
  · rw [h.2.2.1 A t hA e] at ha; cases ha
/-- a point comes -/
theorem TI_come {pts A k : Nat} {nr rt : Nat → Nat} {sc : Nat → Nat → Nat} (h : TI pts nr rt sc k) (hA : A < 9) (ha : pts.testBit A = false) : TI (pts ^^^ 1 <<< A) nr (uN' rt A (k + 1)) sc (k + 1) := by
  have iso := TI_iso h hA ha
  obtain ⟨i1, i2, i3, i4, i5, i6, i7, i8, i9, i10, i11⟩ := h
  have up : ∀ t, pts.testBit t = true → (pts ^^^ 1 <<< A).testBit t = true := fun t q => by
    have e : t ≠ A := fun e => by rw [e, ha] at q; cases q
    rw [xor_bit, q, decide_eq_false e]
    rfl
  have s0 : ∀ q, q < 9 → sc A q = 0 := fun q hq => by
    rcases Nat.eq_zero_or_pos (sc A q) with e | e
    · exact e
    · rw [(i5 A q hA hq e).1] at ha; cases ha
  refine ⟨xor_lt i1 hA, i2, fun p q hp hb => up p (i3 p q hp hb), i4, fun p q hp hq hs => ⟨up p (i5 p q hp hq hs).1, (i5 p q hp hq hs).2⟩, i6, i7, ?_, fun p q hp hq => Nat.le_succ_of_le (i9 p q hp hq), ?_, ?_⟩
  · intro p q hp hq hc
    by_cases e1 : p = A
    · subst e1
      rcases hc with hc | hc
      · rw [cn_iso iso hc]
      · rw [s0 q hq] at hc; omega
    · by_cases e2 : q = A
      · subst e2
        rcases hc with hc | hc
        · exact absurd (cn_iso iso (cn_symm i2 hp hc)) e1
        · rw [i4 p q hp hq, s0 p hp] at hc; omega
      · rw [uN_n e1, uN_n e2]
        exact i8 p q hp hq hc
  · intro p hp
    by_cases e1 : p = A
    · rw [e1, uN_s]; exact Nat.le_refl _
    · rw [uN_n e1]; exact Nat.le_succ_of_le (i10 p hp)
  · intro p hp hb
    by_cases e1 : p = A
    · rw [e1, uN_s]; omega
    · rw [uN_n e1]
      rw [xor_bit, decide_eq_false e1, Bool.xor_false] at hb
      exact i11 p hp hb
/-- a point goes -/
theorem TI_go {pts A k : Nat} {nr rt : Nat → Nat} {sc : Nat → Nat → Nat} (h : TI pts nr rt sc k) (hA : A < 9) (ha : pts.testBit A = true) (hn : nr A = 0) : TI (pts ^^^ 1 <<< A) nr (uN' rt A 0) (kz sc A 9) (k + 1) := by
  have iso : ∀ t, (nr A).testBit t = false := fun t => by rw [hn]; exact Nat.zero_testBit t
  obtain ⟨i1, i2, i3, i4, i5, i6, i7, i8, i9, i10, i11⟩ := h
  have kA : ∀ p q, p < 9 → q < 9 → (p = A ∨ q = A) → kz sc A 9 p q = 0 := fun p q hp hq e => by
    unfold kz
    rw [if_pos]
    rcases e with e | e
    · exact Or.inl ⟨e, hq⟩
    · exact Or.inr ⟨e, hp⟩
  have kN : ∀ p q, p ≠ A → q ≠ A → kz sc A 9 p q = sc p q := fun p q e1 e2 => by
    unfold kz
    rw [if_neg (by omega)]
  have up : ∀ t, t ≠ A → pts.testBit t = true → (pts ^^^ 1 <<< A).testBit t = true := fun t e q => by
    rw [xor_bit, q, decide_eq_false e]
    rfl
  refine ⟨xor_lt i1 hA, i2, ?_, ?_, ?_, ?_, ?_, ?_, ?_, ?_, ?_⟩
  · intro p q hp hb
    refine up p (fun e => ?_) (i3 p q hp hb)
    rw [e, iso q] at hb
    cases hb
  · intro p q hp hq
    by_cases e : p = A ∨ q = A
    · rw [kA p q hp hq e, kA q p hq hp e.symm]
    · rw [kN p q (fun z => e (Or.inl z)) (fun z => e (Or.inr z)), kN q p (fun z => e (Or.inr z)) (fun z => e (Or.inl z))]
      exact i4 p q hp hq
  · intro p q hp hq hs
    by_cases e : p = A ∨ q = A
    · rw [kA p q hp hq e] at hs; omega
    · rw [kN p q (fun z => e (Or.inl z)) (fun z => e (Or.inr z))] at hs
      exact ⟨up p (fun z => e (Or.inl z)) (i5 p q hp hq hs).1, (i5 p q hp hq hs).2⟩
  · intro p p' q hp hp' hq hc
    by_cases e1 : p = A
    · subst e1
      rw [cn_iso iso hc]
    · have e2 : p' ≠ A := fun z => by
        subst z
        exact e1 (cn_iso iso (cn_symm i2 hp hc))
      by_cases e3 : q = A
      · rw [kA p q hp hq (Or.inr e3), kA p' q hp' hq (Or.inr e3)]
      · rw [kN p q e1 e3, kN p' q e2 e3]
        exact i6 p p' q hp hp' hq hc
  · intro p q r hp hq hr hc
    by_cases e1 : p = A ∨ q = A
    · rw [kA p q hp hq e1]; omega
    · by_cases e2 : q = A ∨ r = A
      · rw [kA q r hq hr e2]; omega
      · rw [kN p q (by omega) (by omega), kN q r (by omega) (by omega), kN p r (by omega) (by omega)]
        exact i7 p q r hp hq hr hc
  · intro p q hp hq hc
    by_cases e1 : p = A
    · subst e1
      rcases hc with hc | hc
      · rw [cn_iso iso hc]
      · rw [kA p q hp hq (Or.inl rfl)] at hc; omega
    · by_cases e2 : q = A
      · subst e2
        rcases hc with hc | hc
        · exact absurd (cn_iso iso (cn_symm i2 hp hc)) e1
        · rw [kA p q hp hq (Or.inr rfl)] at hc; omega
      · rw [uN_n e1, uN_n e2]
        rw [kN p q e1 e2] at hc
        exact i8 p q hp hq hc
  · intro p q hp hq
    by_cases e : p = A ∨ q = A
    · rw [kA p q hp hq e]; omega
    · rw [kN p q (by omega) (by omega)]
      exact Nat.le_succ_of_le (i9 p q hp hq)
  · intro p hp
    by_cases e1 : p = A
    · rw [e1, uN_s]; omega
    · rw [uN_n e1]; exact Nat.le_succ_of_le (i10 p hp)
  · intro p hp hb
    by_cases e1 : p = A
    · rw [e1, xor_bit, ha, decide_eq_true rfl] at hb
      cases hb
    · rw [uN_n e1]
      rw [xor_bit, decide_eq_false e1, Bool.xor_false] at hb
      exact i11 p hp hb
/-- an edge of a loop comes or goes -/
theorem cn_loop {nr nr' : Nat → Nat} {A B p q : Nat} (g : Gr nr) (g' : Gr nr') (hA : A < 9) (hB : B < 9) (h : EdX nr nr' A B) (hc : cn nr A B) (hp : p < 9) : cn nr' p q ↔ cn nr p q := by
  rw [cn_add g g' hA hB h hp]
  constructor
  · rintro (r | ⟨r1, r2⟩ | ⟨r1, r2⟩)
    · exact r
    · exact cn_trans r1 (cn_trans hc r2)
    · exact cn_trans r1 (cn_trans (cn_symm g hA hc) r2)
  · exact Or.inl
theorem TI_same {pts k : Nat} {nr nr' rt : Nat → Nat} {sc : Nat → Nat → Nat} (h : TI pts nr rt sc k) (g' : Gr nr') (hs : ∀ p q, p < 9 → (nr' p).testBit q = true → pts.testBit p = true) (hc : ∀ p q, p < 9 → (cn nr' p q ↔ cn nr p q)) : TI pts nr' rt sc (k + 1) := by
  obtain ⟨i1, i2, i3, i4, i5, i6, i7, i8, i9, i10, i11⟩ := h
  exact ⟨i1, g', hs, i4, fun p q hp hq z => ⟨(i5 p q hp hq z).1, fun y => (i5 p q hp hq z).2 ((hc p q hp).mp y)⟩, fun p p' q hp hp' hq z => i6 p p' q hp hp' hq ((hc p p' hp).mp z), fun p q r hp hq hr z => i7 p q r hp hq hr (fun y => z ((hc p r hp).mpr y)), fun p q hp hq z => i8 p q hp hq (z.elim (fun y => Or.inl ((hc p q hp).mp y)) Or.inr), fun p q hp hq => Nat.le_succ_of_le (i9 p q hp hq), fun p hp => Nat.le_succ_of_le (i10 p hp), i11⟩
/-- a piece falls into two: nr' is the graph without the edge, nr that with it -/
theorem TI_part {pts A B k fi se : Nat} {nr nr' rt : Nat → Nat} {sc : Nat → Nat → Nat} (h : TI pts nr rt sc k) (g' : Gr nr') (hA : A < 9) (hB : B < 9) (hx : EdX nr' nr A B) (hn : ¬ cn nr' A B) (hf : ∀ x, fi.testBit x = true ↔ cn nr' A x) (hs : ∀ x, se.testBit x = true ↔ cn nr' B x) : TI pts nr' rt (kP sc fi se (k + 1) 9) (k + 1) := by
  obtain ⟨i1, i2, i3, i4, i5, i6, i7, i8, i9, i10, i11⟩ := h
  have up : ∀ p q, p < 9 → cn nr' p q → cn nr p q := fun p q hp z => cn_more hx z
  have dn : ∀ p q, p < 9 → (cn nr p q ↔ cn nr' p q ∨ (cn nr' p A ∧ cn nr' B q) ∨ (cn nr' p B ∧ cn nr' A q)) := fun p q hp => cn_add g' i2 hA hB hx hp
  have kT : ∀ x y, x < 9 → y < 9 → (cn nr' A x ∧ cn nr' B y) ∨ (cn nr' A y ∧ cn nr' B x) → kP sc fi se (k + 1) 9 x y = k + 1 := fun x y hx9 hy9 e => by
    unfold kP
    rw [if_pos]
    rcases e with ⟨e1, e2⟩ | ⟨e1, e2⟩
    · exact Or.inl ⟨(hf x).mpr e1, (hs y).mpr e2, hx9⟩
    · exact Or.inr ⟨(hf y).mpr e1, (hs x).mpr e2, hy9⟩
  have kF : ∀ x y, ¬ ((cn nr' A x ∧ cn nr' B y) ∨ (cn nr' A y ∧ cn nr' B x)) → kP sc fi se (k + 1) 9 x y = sc x y := fun x y e => by
    unfold kP
    rw [if_neg]
    rintro (⟨e1, e2, -⟩ | ⟨e1, e2, -⟩)
    · exact e (Or.inl ⟨(hf x).mp e1, (hs y).mp e2⟩)
    · exact e (Or.inr ⟨(hf y).mp e1, (hs x).mp e2⟩)
  have sy : ∀ p q, p < 9 → cn nr' p q → cn nr' q p := fun p q hp z => cn_symm g' hp z
  have cond_cn : ∀ x y, (cn nr' A x ∧ cn nr' B y) ∨ (cn nr' A y ∧ cn nr' B x) → cn nr x y := fun x y e => by
    have eAB : cn nr A B := cn_edge hA ((hx A B hA).mpr (Or.inr (Or.inl ⟨rfl, rfl⟩)))
    rcases e with ⟨e1, e2⟩ | ⟨e1, e2⟩
    · exact cn_trans (cn_symm i2 hA (up A x hA e1)) (cn_trans eAB (up B y hB e2))
    · exact cn_trans (cn_symm i2 hB (up B x hB e2)) (cn_trans (cn_symm i2 hA eAB) (up A y hA e1))
  have cond_sy : ∀ x y, ((cn nr' A x ∧ cn nr' B y) ∨ (cn nr' A y ∧ cn nr' B x)) → ((cn nr' A y ∧ cn nr' B x) ∨ (cn nr' A x ∧ cn nr' B y)) := fun x y e => e.symm
  refine ⟨i1, g', fun p q hp hb => i3 p q hp ((hx p q hp).mpr (Or.inl hb)), ?_, ?_, ?_, ?_, ?_, ?_, fun p hp => Nat.le_succ_of_le (i10 p hp), i11⟩
  · intro p q hp hq
    by_cases e : (cn nr' A p ∧ cn nr' B q) ∨ (cn nr' A q ∧ cn nr' B p)
    · rw [kT p q hp hq e, kT q p hq hp e.symm]
    · rw [kF p q e, kF q p (fun z => e z.symm)]
      exact i4 p q hp hq
  · intro p q hp hq z
    by_cases e : (cn nr' A p ∧ cn nr' B q) ∨ (cn nr' A q ∧ cn nr' B p)
    · refine ⟨?_, fun y => ?_⟩
      · have c1 := cond_cn p q e
        rcases Nat.eq_zero_or_pos (rt p) with r | r
        · have hpp : pts.testBit p = true := by
            -- the edge's ends are there, and what hangs together with them
            have eA : pts.testBit A = true := i3 A B hA ((hx A B hA).mpr (Or.inr (Or.inl ⟨rfl, rfl⟩)))
            have eB : pts.testBit B = true := i3 B A hB ((hx B A hB).mpr (Or.inr (Or.inr ⟨rfl, rfl⟩)))
            have key : ∀ a, a < 9 → pts.testBit a = true → ∀ x, cn nr' a x → pts.testBit x = true := fun a ha hap x hc => hc pts hap (fun y hy _ t ht => by
              have ht9 := Gr_lt g' hy ht
              exact i3 t y ht9 ((hx t y ht9).mpr (Or.inl (g'.2.1 y t hy ht9 ht))))
            rcases e with ⟨e1, -⟩ | ⟨-, e2⟩
            · exact key A hA eA p e1
            · exact key B hB eB p e2
          exact hpp
        · have eA : pts.testBit A = true := i3 A B hA ((hx A B hA).mpr (Or.inr (Or.inl ⟨rfl, rfl⟩)))
          have eB : pts.testBit B = true := i3 B A hB ((hx B A hB).mpr (Or.inr (Or.inr ⟨rfl, rfl⟩)))
          have key : ∀ a, a < 9 → pts.testBit a = true → ∀ x, cn nr' a x → pts.testBit x = true := fun a ha hap x hc => hc pts hap (fun y hy _ t ht => by
            have ht9 := Gr_lt g' hy ht
            exact i3 t y ht9 ((hx t y ht9).mpr (Or.inl (g'.2.1 y t hy ht9 ht))))
          rcases e with ⟨e1, -⟩ | ⟨-, e2⟩
          · exact key A hA eA p e1
          · exact key B hB eB p e2
      · rcases e with ⟨e1, e2⟩ | ⟨e1, e2⟩
        · exact hn (cn_trans e1 (cn_trans y (sy B q hB e2)))
        · exact hn (cn_trans e1 (cn_trans (sy p q hp y) (sy B p hB e2)))
    · rw [kF p q e] at z
      exact ⟨(i5 p q hp hq z).1, fun y => (i5 p q hp hq z).2 (up p q hp y)⟩
  · intro p p' q hp hp' hq hc
    have hc2 := sy p p' hp hc
    by_cases e : (cn nr' A p ∧ cn nr' B q) ∨ (cn nr' A q ∧ cn nr' B p)
    · have e' : (cn nr' A p' ∧ cn nr' B q) ∨ (cn nr' A q ∧ cn nr' B p') := e.elim (fun z => Or.inl ⟨cn_trans z.1 hc, z.2⟩) (fun z => Or.inr ⟨z.1, cn_trans z.2 hc⟩)
      rw [kT p q hp hq e, kT p' q hp' hq e']
    · have e' : ¬ ((cn nr' A p' ∧ cn nr' B q) ∨ (cn nr' A q ∧ cn nr' B p')) := fun z => e (z.elim (fun z => Or.inl ⟨cn_trans z.1 hc2, z.2⟩) (fun z => Or.inr ⟨z.1, cn_trans z.2 hc2⟩))
      rw [kF p q e, kF p' q e']
      exact i6 p p' q hp hp' hq (up p p' hp hc)
  · intro p q r hp hq hr hc
    by_cases epr : (cn nr' A p ∧ cn nr' B r) ∨ (cn nr' A r ∧ cn nr' B p)
    · rw [kT p r hp hr epr]
      have b1 : kP sc fi se (k + 1) 9 p q ≤ k + 1 := by
        by_cases e : (cn nr' A p ∧ cn nr' B q) ∨ (cn nr' A q ∧ cn nr' B p)
        · rw [kT p q hp hq e]; exact Nat.le_refl _
        · rw [kF p q e]; exact Nat.le_succ_of_le (i9 p q hp hq)
      omega
    · rw [kF p r epr]
      by_cases epq : (cn nr' A p ∧ cn nr' B q) ∨ (cn nr' A q ∧ cn nr' B p)
      · by_cases eqr : (cn nr' A q ∧ cn nr' B r) ∨ (cn nr' A r ∧ cn nr' B q)
        · exfalso
          rcases epq with ⟨a1, a2⟩ | ⟨a1, a2⟩
          · rcases eqr with ⟨b1, b2⟩ | ⟨b1, b2⟩
            · exact hn (cn_trans b1 (sy B q hB a2))
            · exact hc (cn_trans (sy A p hA a1) b1)
          · rcases eqr with ⟨b1, b2⟩ | ⟨b1, b2⟩
            · exact hc (cn_trans (sy B p hB a2) b2)
            · exact hn (cn_trans a1 (sy B q hB b2))
        · rw [kF q r eqr, i6 p q r hp hq hr (cond_cn p q epq)]
          exact Nat.min_le_right _ _
      · rw [kF p q epq]
        by_cases eqr : (cn nr' A q ∧ cn nr' B r) ∨ (cn nr' A r ∧ cn nr' B q)
        · have e1 := i6 r q p hr hq hp (cn_symm i2 hq (cond_cn q r eqr))
          rw [i4 p q hp hq, i4 p r hp hr, e1]
          exact Nat.min_le_left _ _
        · rw [kF q r eqr]
          refine i7 p q r hp hq hr (fun z => ?_)
          rcases (dn p r hp).mp z with z | ⟨z1, z2⟩ | ⟨z1, z2⟩
          · exact hc z
          · exact epr (Or.inl ⟨sy p A hp z1, z2⟩)
          · exact epr (Or.inr ⟨z2, sy p B hp z1⟩)
  · intro p q hp hq z
    rcases z with z | z
    · exact i8 p q hp hq (Or.inl (up p q hp z))
    · by_cases e : (cn nr' A p ∧ cn nr' B q) ∨ (cn nr' A q ∧ cn nr' B p)
      · exact i8 p q hp hq (Or.inl (cond_cn p q e))
      · rw [kF p q e] at z
        exact i8 p q hp hq (Or.inr z)
  · intro p q hp hq
    by_cases e : (cn nr' A p ∧ cn nr' B q) ∨ (cn nr' A q ∧ cn nr' B p)
    · rw [kT p q hp hq e]; exact Nat.le_refl _
    · rw [kF p q e]; exact Nat.le_succ_of_le (i9 p q hp hq)
