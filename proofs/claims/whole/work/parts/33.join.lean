/-! Two pieces become one: kin stays an ultrametric -/
/-- kin of two other pieces x, y, of whom kin with P and with Q is known -/
def fJ (m ax bx ay bY s : Nat) : Nat := if m < ax ∧ m < bY then min ax bY else if m < ay ∧ m < bx then min ay bx else s
theorem fJ_1 {m ax bx ay bY s : Nat} (x1 : min ax bx ≤ m) (x2 : min ax m ≤ bx) (x3 : min m bx ≤ ax) (y1 : min ay bY ≤ m) (y2 : min ay m ≤ bY) (y3 : min m bY ≤ ay) (a1 : min ax ay ≤ s) (a2 : min ax s ≤ ay) (a3 : min ay s ≤ ax) (b1 : min bx bY ≤ s) (b2 : min bx s ≤ bY) (b3 : min bY s ≤ bx) :
    (min (max ax bx) (max ay bY) ≤ fJ m ax bx ay bY s ∧ min (max ax bx) (fJ m ax bx ay bY s) ≤ max ay bY ∧ min (max ay bY) (fJ m ax bx ay bY s) ≤ max ax bx) ∧ (fJ m ax bx ay bY s = s ∨ (fJ m ax bx ay bY s = min (max ax bx) (max ay bY) ∧ s = m ∧ m < max ax bx ∧ m < max ay bY)) := by
  unfold fJ
  split
  · omega
  · split
    · omega
    · omega
theorem fJ_2 {m vp vq vr fpq fqr fpr spq sqr spr : Nat} (i1 : min vp vq ≤ fpq) (i2 : min vp fpq ≤ vq) (i3 : min vq fpq ≤ vp) (j1 : min vq vr ≤ fqr) (j2 : min vq fqr ≤ vr) (j3 : min vr fqr ≤ vq) (k1 : min vp vr ≤ fpr)
    (e1 : fpq = spq ∨ (fpq = min vp vq ∧ spq = m ∧ m < vp ∧ m < vq)) (e2 : fqr = sqr ∨ (fqr = min vq vr ∧ sqr = m ∧ m < vq ∧ m < vr)) (e3 : fpr = spr ∨ (fpr = min vp vr ∧ spr = m ∧ m < vp ∧ m < vr)) (u : min spq sqr ≤ spr) : min fpq fqr ≤ fpr := by
  rcases e1 with e1 | e1 <;> rcases e2 with e2 | e2 <;> rcases e3 with e3 | e3 <;> omega
theorem fJ_sym {m ax bx ay bY s : Nat} (hx : ¬ (m < ax ∧ m < bx)) (hy : ¬ (m < ay ∧ m < bY)) : fJ m ax bx ay bY s = fJ m ay bY ax bx s := by
  unfold fJ
  by_cases h1 : m < ax ∧ m < bY
  · rw [if_pos h1, if_neg (by omega), if_pos h1]
  · rw [if_neg h1]
    by_cases h2 : m < ay ∧ m < bx
    · rw [if_pos h2, if_pos h2]
    · rw [if_neg h2, if_neg h2, if_neg h1]
/-- kin behind a joining, of points: J: the points of the joined piece -/
def scJ (sc : Nat → Nat → Nat) (A B J x y : Nat) : Nat :=
  if J.testBit x = true then (if J.testBit y = true then 0 else max (sc A y) (sc B y)) else if J.testBit y = true then max (sc A x) (sc B x) else fJ (sc A B) (sc A x) (sc B x) (sc A y) (sc B y) (sc x y)
section J
variable {pts A B k J : Nat} {nr nr' rt : Nat → Nat} {sc : Nat → Nat → Nat}
theorem TI_join (h : TI pts nr rt sc k) (g' : Gr nr') (hA : A < 9) (hB : B < 9) (hx : EdX nr nr' A B) (hn : ¬ cn nr A B) (pA : pts.testBit A = true) (pB : pts.testBit B = true) (hJ : ∀ x, J.testBit x = true ↔ cn nr' A x)
    {sc' : Nat → Nat → Nat} (hsc : ∀ x y, x < 9 → y < 9 → sc' x y = scJ sc A B J x y) {rt' : Nat → Nat}
    (hrt : ∀ x, x < 9 → rt' x = if sc A B = 0 then (if J.testBit x = true ∨ 0 < sc A x ∨ 0 < sc B x then min (rt A) (rt B) else rt x) else rt x) : TI pts nr' rt' sc' (k + 1) := by
  obtain ⟨i1, i2, i3, i4, i5, i6, i7, i8, i9, i10, i11⟩ := h
  have cA : ∀ p q, p < 9 → (cn nr' p q ↔ cn nr p q ∨ (cn nr p A ∧ cn nr B q) ∨ (cn nr p B ∧ cn nr A q)) := fun p q hp => cn_add i2 g' hA hB hx hp
  have sy : ∀ p q, p < 9 → cn nr p q → cn nr q p := fun p q hp z => cn_symm i2 hp z
  have hJ2 : ∀ x, J.testBit x = true ↔ cn nr A x ∨ cn nr B x := fun x => by
    rw [hJ, cA A x hA]
    constructor
    · rintro (r | ⟨-, r⟩ | ⟨r, -⟩)
      · exact Or.inl r
      · exact Or.inr r
      · exact absurd r hn
    · rintro (r | r)
      · exact Or.inl r
      · exact Or.inr (Or.inl ⟨cn_refl nr A, r⟩)
  have nJ : ∀ x, x < 9 → ¬ J.testBit x = true → ¬ cn nr A x ∧ ¬ cn nr B x ∧ ¬ cn nr x A ∧ ¬ cn nr x B := fun x hx9 z => ⟨fun r => z ((hJ2 x).mpr (Or.inl r)), fun r => z ((hJ2 x).mpr (Or.inr r)), fun r => z ((hJ2 x).mpr (Or.inl (sy x A hx9 r))), fun r => z ((hJ2 x).mpr (Or.inr (sy x B hx9 r)))⟩
  -- the ultrametric of a point outside with A and B
  have u3 : ∀ x, x < 9 → ¬ J.testBit x = true → min (sc A x) (sc B x) ≤ sc A B ∧ min (sc A x) (sc A B) ≤ sc B x ∧ min (sc A B) (sc B x) ≤ sc A x := fun x hx9 z => by
    obtain ⟨n1, n2, n3, n4⟩ := nJ x hx9 z
    have a1 := i7 A x B hA hx9 hB hn
    have a2 := i7 x A B hx9 hA hB n4
    have a3 := i7 A B x hA hB hx9 n1
    rw [i4 x B hx9 hB] at a1 a2
    rw [i4 x A hx9 hA] at a2
    exact ⟨a1, a2, a3⟩
  have ex : ∀ x, x < 9 → ¬ J.testBit x = true → ¬ (sc A B < sc A x ∧ sc A B < sc B x) := fun x hx9 z => by
    have := (u3 x hx9 z).1
    omega
  -- of two points outside that don't hang together
  have u6 : ∀ x y, x < 9 → y < 9 → ¬ J.testBit x = true → ¬ J.testBit y = true → ¬ cn nr x y → (min (sc A x) (sc A y) ≤ sc x y ∧ min (sc A x) (sc x y) ≤ sc A y ∧ min (sc A y) (sc x y) ≤ sc A x) ∧ (min (sc B x) (sc B y) ≤ sc x y ∧ min (sc B x) (sc x y) ≤ sc B y ∧ min (sc B y) (sc x y) ≤ sc B x) := fun x y hx9 hy9 zx zy z => by
    obtain ⟨n1, n2, n3, n4⟩ := nJ x hx9 zx
    obtain ⟨m1, m2, m3, m4⟩ := nJ y hy9 zy
    have a1 := i7 x A y hx9 hA hy9 z
    have a2 := i7 A x y hA hx9 hy9 m1
    have a3 := i7 A y x hA hy9 hx9 n1
    have b1 := i7 x B y hx9 hB hy9 z
    have b2 := i7 B x y hB hx9 hy9 m2
    have b3 := i7 B y x hB hy9 hx9 n2
    rw [i4 x A hx9 hA] at a1
    rw [i4 y x hy9 hx9] at a3 b3
    rw [i4 x B hx9 hB] at b1
    exact ⟨⟨a1, a2, a3⟩, ⟨b1, b2, b3⟩⟩
  have cJ' : ∀ x y, x < 9 → ¬ J.testBit x = true → (cn nr' x y ↔ cn nr x y) := fun x y hx9 z => by
    obtain ⟨n1, n2, n3, n4⟩ := nJ x hx9 z
    rw [cA x y hx9]
    constructor
    · rintro (r | ⟨r, -⟩ | ⟨r, -⟩)
      · exact r
      · exact absurd r n3
      · exact absurd r n4
    · exact Or.inl
  have JJ : ∀ x y, x < 9 → J.testBit x = true → (cn nr' x y ↔ J.testBit y = true) := fun x y hx9 z => by
    have z1 := (hJ x).mp z
    constructor
    · exact fun r => (hJ y).mpr (cn_trans z1 r)
    · exact fun r => cn_trans (cn_symm g' hA z1) ((hJ y).mp r)
  -- values
  have vJJ : ∀ x y, x < 9 → y < 9 → J.testBit x = true → J.testBit y = true → sc' x y = 0 := fun x y h1 h2 z1 z2 => by
    rw [hsc x y h1 h2]; unfold scJ; rw [if_pos z1, if_pos z2]
  have vJN : ∀ x y, x < 9 → y < 9 → J.testBit x = true → ¬ J.testBit y = true → sc' x y = max (sc A y) (sc B y) := fun x y h1 h2 z1 z2 => by
    rw [hsc x y h1 h2]; unfold scJ; rw [if_pos z1, if_neg z2]
  have vNJ : ∀ x y, x < 9 → y < 9 → ¬ J.testBit x = true → J.testBit y = true → sc' x y = max (sc A x) (sc B x) := fun x y h1 h2 z1 z2 => by
    rw [hsc x y h1 h2]; unfold scJ; rw [if_neg z1, if_pos z2]
  have vNN : ∀ x y, x < 9 → y < 9 → ¬ J.testBit x = true → ¬ J.testBit y = true → sc' x y = fJ (sc A B) (sc A x) (sc B x) (sc A y) (sc B y) (sc x y) := fun x y h1 h2 z1 z2 => by
    rw [hsc x y h1 h2]; unfold scJ; rw [if_neg z1, if_neg z2]
  -- of two that hang together, outside: 0
  have v0 : ∀ x y, x < 9 → y < 9 → ¬ J.testBit x = true → ¬ J.testBit y = true → cn nr x y → sc' x y = 0 := fun x y h1 h2 z1 z2 z => by
    rw [vNN x y h1 h2 z1 z2]
    have e1 : sc A x = sc A y := by rw [i4 A x hA h1, i4 A y hA h2]; exact i6 x y A h1 h2 hA z
    have e2 : sc B x = sc B y := by rw [i4 B x hB h1, i4 B y hB h2]; exact i6 x y B h1 h2 hB z
    have e3 : sc x y = 0 := by
      rcases Nat.eq_zero_or_pos (sc x y) with r | r
      · exact r
      · exact absurd z (i5 x y h1 h2 r).2
    have e4 := ex y h2 z2
    unfold fJ
    rw [e1, e2, if_neg (by omega), if_neg (by omega), e3]
  have pP : ∀ x, x < 9 → 0 < max (sc A x) (sc B x) → pts.testBit x = true := fun x h1 z => by
    rcases Nat.lt_or_ge 0 (sc A x) with r | r
    · rw [i4 A x hA h1] at r
      exact (i5 x A h1 hA r).1
    · have r2 : 0 < sc B x := by omega
      rw [i4 B x hB h1] at r2
      exact (i5 x B h1 hB r2).1
  have pJ : ∀ x, x < 9 → J.testBit x = true → pts.testBit x = true := fun x h1 z => by
    have key : ∀ a, pts.testBit a = true → ∀ x, cn nr a x → pts.testBit x = true := fun a hap x hc => hc pts hap (fun y hy _ t ht => by
      have ht9 := Gr_lt i2 hy ht
      exact i3 t y ht9 (i2.2.1 y t hy ht9 ht))
    rcases (hJ2 x).mp z with r | r
    · exact key A pA x r
    · exact key B pB x r
  refine ⟨i1, g', ?_, ?_, ?_, ?_, ?_, ?_, ?_, ?_, ?_⟩
  · intro p q hp hb
    rcases (hx p q hp).mp hb with r | ⟨r, -⟩ | ⟨r, -⟩
    · exact i3 p q hp r
    · rw [r]; exact pA
    · rw [r]; exact pB
  · intro p q hp hq
    by_cases z1 : J.testBit p = true
    · by_cases z2 : J.testBit q = true
      · rw [vJJ p q hp hq z1 z2, vJJ q p hq hp z2 z1]
      · rw [vJN p q hp hq z1 z2, vNJ q p hq hp z2 z1]
    · by_cases z2 : J.testBit q = true
      · rw [vNJ p q hp hq z1 z2, vJN q p hq hp z2 z1]
      · rw [vNN p q hp hq z1 z2, vNN q p hq hp z2 z1, i4 q p hq hp]
        exact fJ_sym (ex p hp z1) (ex q hq z2)
  · intro p q hp hq z
    by_cases z1 : J.testBit p = true
    · by_cases z2 : J.testBit q = true
      · rw [vJJ p q hp hq z1 z2] at z; omega
      · exact ⟨pJ p hp z1, fun r => z2 ((JJ p q hp z1).mp r)⟩
    · by_cases z2 : J.testBit q = true
      · rw [vNJ p q hp hq z1 z2] at z
        exact ⟨pP p hp z, fun r => z1 ((JJ q p hq z2).mp (cn_symm g' hp r))⟩
      · refine ⟨?_, fun r => ?_⟩
        · rw [vNN p q hp hq z1 z2] at z
          unfold fJ at z
          split at z
          · exact pP p hp (by omega)
          · split at z
            · exact pP p hp (by omega)
            · exact (i5 p q hp hq z).1
        · rw [v0 p q hp hq z1 z2 ((cJ' p q hp z1).mp r)] at z
          omega
  · intro p p' q hp hp' hq hc
    by_cases z1 : J.testBit p = true
    · have z1' := (JJ p p' hp z1).mp hc
      by_cases z2 : J.testBit q = true
      · rw [vJJ p q hp hq z1 z2, vJJ p' q hp' hq z1' z2]
      · rw [vJN p q hp hq z1 z2, vJN p' q hp' hq z1' z2]
    · have hc2 := (cJ' p p' hp z1).mp hc
      have z1' : ¬ J.testBit p' = true := fun r => z1 ((JJ p' p hp' r).mp (cn_symm g' hp hc))
      have e1 : sc A p = sc A p' := by rw [i4 A p hA hp, i4 A p' hA hp']; exact i6 p p' A hp hp' hA hc2
      have e2 : sc B p = sc B p' := by rw [i4 B p hB hp, i4 B p' hB hp']; exact i6 p p' B hp hp' hB hc2
      by_cases z2 : J.testBit q = true
      · rw [vNJ p q hp hq z1 z2, vNJ p' q hp' hq z1' z2, e1, e2]
      · rw [vNN p q hp hq z1 z2, vNN p' q hp' hq z1' z2, e1, e2, i6 p p' q hp hp' hq hc2]
  · intro p q r hp hq hr hc
    have pair : ∀ x y, x < 9 → y < 9 → ¬ J.testBit x = true → ¬ J.testBit y = true → ¬ cn nr x y → _ := fun x y h1 h2 z1 z2 z => fJ_1 (s := sc x y) (u3 x h1 z1).1 (u3 x h1 z1).2.1 (u3 x h1 z1).2.2 (u3 y h2 z2).1 (u3 y h2 z2).2.1 (u3 y h2 z2).2.2 (u6 x y h1 h2 z1 z2 z).1.1 (u6 x y h1 h2 z1 z2 z).1.2.1 (u6 x y h1 h2 z1 z2 z).1.2.2 (u6 x y h1 h2 z1 z2 z).2.1 (u6 x y h1 h2 z1 z2 z).2.2.1 (u6 x y h1 h2 z1 z2 z).2.2.2
    by_cases zp : J.testBit p = true
    · have zr : ¬ J.testBit r = true := fun z => hc ((JJ p r hp zp).mpr z)
      by_cases zq : J.testBit q = true
      · rw [vJJ p q hp hq zp zq]; omega
      · rw [vJN p q hp hq zp zq, vJN p r hp hr zp zr]
        by_cases e : cn nr q r
        · rw [v0 q r hq hr zq zr e]; omega
        · rw [vNN q r hq hr zq zr]
          exact (pair q r hq hr zq zr e).1.2.1
    · by_cases zr : J.testBit r = true
      · by_cases zq : J.testBit q = true
        · rw [vJJ q r hq hr zq zr]; omega
        · rw [vNJ q r hq hr zq zr, vNJ p r hp hr zp zr]
          by_cases e : cn nr p q
          · rw [v0 p q hp hq zp zq e]; omega
          · rw [vNN p q hp hq zp zq, Nat.min_comm]
            exact (pair p q hp hq zp zq e).1.2.2
      · have hc2 : ¬ cn nr p r := fun z => hc ((cJ' p r hp zp).mpr z)
        have ppr := pair p r hp hr zp zr hc2
        by_cases zq : J.testBit q = true
        · rw [vNJ p q hp hq zp zq, vJN q r hq hr zq zr, vNN p r hp hr zp zr]
          exact ppr.1.1
        · by_cases e1 : cn nr p q
          · rw [v0 p q hp hq zp zq e1]; omega
          · by_cases e2 : cn nr q r
            · rw [v0 q r hq hr zq zr e2]; omega
            · have ppq := pair p q hp hq zp zq e1
              have pqr := pair q r hq hr zq zr e2
              rw [vNN p q hp hq zp zq, vNN q r hq hr zq zr, vNN p r hp hr zp zr]
              exact fJ_2 ppq.1.1 ppq.1.2.1 ppq.1.2.2 pqr.1.1 pqr.1.2.1 pqr.1.2.2 ppr.1.1 ppq.2 pqr.2 ppr.2 (i7 p q r hp hq hr hc2)
  · intro p q hp hq z
    have rA : ∀ x, x < 9 → cn nr A x → rt A = rt x := fun x h1 y => i8 A x hA h1 (Or.inl y)
    have rB : ∀ x, x < 9 → cn nr B x → rt B = rt x := fun x h1 y => i8 B x hB h1 (Or.inl y)
    by_cases m0 : sc A B = 0
    · rw [hrt p hp, hrt q hq, if_pos m0, if_pos m0]
      have both : (J.testBit p = true ∨ 0 < sc A p ∨ 0 < sc B p) → (J.testBit q = true ∨ 0 < sc A q ∨ 0 < sc B q) → (if J.testBit p = true ∨ 0 < sc A p ∨ 0 < sc B p then min (rt A) (rt B) else rt p) = (if J.testBit q = true ∨ 0 < sc A q ∨ 0 < sc B q then min (rt A) (rt B) else rt q) := fun a1 a2 => by rw [if_pos a1, if_pos a2]
      by_cases zp : J.testBit p = true
      · by_cases zq : J.testBit q = true
        · exact both (Or.inl zp) (Or.inl zq)
        · rcases z with z | z
          · exact absurd ((JJ p q hp zp).mp z) zq
          · rw [vJN p q hp hq zp zq] at z
            exact both (Or.inl zp) (Or.inr (by omega))
      · by_cases zq : J.testBit q = true
        · rcases z with z | z
          · exact absurd ((JJ q p hq zq).mp (cn_symm g' hp z)) zp
          · rw [vNJ p q hp hq zp zq] at z
            exact both (Or.inr (by omega)) (Or.inl zq)
        · by_cases e : cn nr p q
          · have e1 : sc A p = sc A q := by rw [i4 A p hA hp, i4 A q hA hq]; exact i6 p q A hp hq hA e
            have e2 : sc B p = sc B q := by rw [i4 B p hB hp, i4 B q hB hq]; exact i6 p q B hp hq hB e
            have e3 := i8 p q hp hq (Or.inl e)
            by_cases l : 0 < sc A p ∨ 0 < sc B p
            · exact both (Or.inr l) (Or.inr (by omega))
            · rw [if_neg (fun y => y.elim zp l), if_neg (fun y => y.elim zq (fun y => l (by omega)))]
              exact e3
          · rcases z with z | z
            · exact absurd ((cJ' p q hp zp).mp z) e
            · rw [vNN p q hp hq zp zq] at z
              obtain ⟨⟨w1, w2, w3⟩, ⟨w4, w5, w6⟩⟩ := u6 p q hp hq zp zq e
              by_cases l : 0 < sc A p ∨ 0 < sc B p
              · by_cases l2 : 0 < sc A q ∨ 0 < sc B q
                · exact both (Or.inr l) (Or.inr l2)
                · exfalso
                  unfold fJ at z
                  split at z
                  · omega
                  · split at z
                    · omega
                    · omega
              · by_cases l2 : 0 < sc A q ∨ 0 < sc B q
                · exfalso
                  unfold fJ at z
                  split at z
                  · omega
                  · split at z
                    · omega
                    · omega
                · rw [if_neg (fun y => y.elim zp l), if_neg (fun y => y.elim zq l2)]
                  unfold fJ at z
                  rw [if_neg (by omega), if_neg (by omega)] at z
                  exact i8 p q hp hq (Or.inr z)
    · rw [hrt p hp, hrt q hq, if_neg m0, if_neg m0]
      have eAB : rt A = rt B := i8 A B hA hB (Or.inr (by omega))
      have rJ : ∀ x, x < 9 → J.testBit x = true → rt x = rt A := fun x h1 y => by
        rcases (hJ2 x).mp y with r | r
        · exact (rA x h1 r).symm
        · rw [eAB]; exact (rB x h1 r).symm
      have rV : ∀ x, x < 9 → 0 < max (sc A x) (sc B x) → rt x = rt A := fun x h1 y => by
        rcases Nat.lt_or_ge 0 (sc A x) with r | r
        · exact (i8 A x hA h1 (Or.inr r)).symm
        · rw [eAB]
          exact (i8 B x hB h1 (Or.inr (by omega))).symm
      by_cases zp : J.testBit p = true
      · by_cases zq : J.testBit q = true
        · rw [rJ p hp zp, rJ q hq zq]
        · rcases z with z | z
          · exact absurd ((JJ p q hp zp).mp z) zq
          · rw [vJN p q hp hq zp zq] at z
            rw [rJ p hp zp, rV q hq z]
      · by_cases zq : J.testBit q = true
        · rcases z with z | z
          · exact absurd ((JJ q p hq zq).mp (cn_symm g' hp z)) zp
          · rw [vNJ p q hp hq zp zq] at z
            rw [rJ q hq zq, rV p hp z]
        · rcases z with z | z
          · exact i8 p q hp hq (Or.inl ((cJ' p q hp zp).mp z))
          · rw [vNN p q hp hq zp zq] at z
            unfold fJ at z
            split at z
            next w => rw [rV p hp (by omega), rV q hq (by omega)]
            next =>
              split at z
              next w => rw [rV p hp (by omega), rV q hq (by omega)]
              next => exact i8 p q hp hq (Or.inr z)
  · intro p q hp hq
    have a1 := i9 A p hA hp
    have a2 := i9 A q hA hq
    have a3 := i9 B p hB hp
    have a4 := i9 B q hB hq
    have a5 := i9 p q hp hq
    rw [hsc p q hp hq]
    unfold scJ fJ
    split
    · split <;> omega
    · split
      · omega
      · split
        · omega
        · split <;> omega
  · intro p hp
    have a1 := i10 A hA
    have a2 := i10 B hB
    have a3 := i10 p hp
    rw [hrt p hp]
    split
    · split <;> omega
    · omega
  · intro p hp hb
    have a1 := i11 A hA pA
    have a2 := i11 B hB pB
    have a3 := i11 p hp hb
    rw [hrt p hp]
    split
    · split <;> omega
    · omega
end J
