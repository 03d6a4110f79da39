/-! The reference's story and the class's -/
/-- pieces with numbers: roots and kin by numbers are those by points -/
def SK (pts : Nat) (nr rt : Nat → Nat) (sc : Nat → Nat → Nat) (po ro : Nat → Nat) (kf : Nat → Nat → Nat) : Prop :=
  (∀ p, p < 9 → pts.testBit p = true → ro (po p) = rt p) ∧
  (∀ p q, p < 9 → q < 9 → pts.testBit p = true → pts.testBit q = true → ¬ cn nr p q → kf (po p) (po q) = sc p q)
theorem SK_same {pts : Nat} {nr nr' rt po ro : Nat → Nat} {sc kf : Nat → Nat → Nat} (h : SK pts nr rt sc po ro kf) (hc : ∀ p q, p < 9 → (cn nr' p q ↔ cn nr p q)) : SK pts nr' rt sc po ro kf := ⟨h.1, fun p q hp hq a b z => h.2 p q hp hq a b (fun y => z ((hc p q hp).mpr y))⟩
theorem SK_come {pts pcs A l k m : Nat} {nr rt po ro : Nat → Nat} {sc kf : Nat → Nat → Nat} (h : SK pts nr rt sc po ro kf) (hT : TI pts nr rt sc k) (hL : Lab pts nr po pcs) (hA : A < 9) (ha : pts.testBit A = false) (hl : l < 9) (hlb : pcs.testBit l = false) : SK (pts ^^^ 1 <<< A) nr (uN' rt A m) sc (uN' po A l) (uN' ro l m) (kz kf l 9) := by
  obtain ⟨h1, h2⟩ := h
  obtain ⟨l1, l2, l3, l4, l5⟩ := hL
  have bp : ∀ t, (pts ^^^ 1 <<< A).testBit t = true ↔ pts.testBit t = true ∨ t = A := fun t => by
    rw [xor_bit]
    by_cases e : t = A
    · subst e; simp [ha]
    · simp [e]
  have nA : ∀ p, pts.testBit p = true → p ≠ A := fun p q e => by rw [e, ha] at q; cases q
  have nl : ∀ p, p < 9 → pts.testBit p = true → po p ≠ l := fun p hp q e => by
    have := l3 p hp q
    rw [e, hlb] at this
    cases this
  have zA : ∀ q, q < 9 → sc A q = 0 := fun q hq => by
    rcases Nat.eq_zero_or_pos (sc A q) with z | z
    · exact z
    · have := (hT.2.2.2.2.1 A q hA hq z).1
      rw [ha] at this
      cases this
  refine ⟨fun p hp hb => ?_, fun p q hp hq hb1 hb2 hn => ?_⟩
  · rcases (bp p).mp hb with r | r
    · rw [uN_n (nA p r), uN_n (nA p r), uN_n (nl p hp r)]
      exact h1 p hp r
    · subst r
      rw [uN_s, uN_s, uN_s]
  · rcases (bp p).mp hb1 with r1 | r1
    · rw [uN_n (nA p r1)]
      rcases (bp q).mp hb2 with r2 | r2
      · rw [uN_n (nA q r2)]
        have n1 := nl p hp r1
        have n2 := nl q hq r2
        unfold kz
        rw [if_neg (fun z => z.elim (fun z => n1 z.1) (fun z => n2 z.1))]
        exact h2 p q hp hq r1 r2 hn
      · subst r2
        rw [uN_s]
        unfold kz
        rw [if_pos (Or.inr ⟨rfl, l2 p hp⟩), hT.2.2.2.1 p q hp hq]
        exact (zA p hp).symm
    · subst r1
      rw [uN_s]
      have hl2 : uN' po p l q < 9 := by
        unfold uN'
        split
        · exact hl
        · exact l2 q hq
      unfold kz
      rw [if_pos (Or.inl ⟨rfl, hl2⟩)]
      exact (zA q hq).symm
theorem SK_go {pts A : Nat} {nr rt po ro : Nat → Nat} {sc kf : Nat → Nat → Nat} (h : SK pts nr rt sc po ro kf) (hA : A < 9) (ha : pts.testBit A = true) : SK (pts ^^^ 1 <<< A) nr (uN' rt A 0) (kz sc A 9) po ro kf := by
  obtain ⟨h1, h2⟩ := h
  have bp : ∀ t, (pts ^^^ 1 <<< A).testBit t = true ↔ pts.testBit t = true ∧ t ≠ A := fun t => by
    rw [xor_bit]
    by_cases e : t = A
    · subst e; simp [ha]
    · simp [e]
  refine ⟨fun p hp hb => ?_, fun p q hp hq hb1 hb2 hn => ?_⟩
  · obtain ⟨r1, r2⟩ := (bp p).mp hb
    rw [uN_n r2]
    exact h1 p hp r1
  · obtain ⟨r1, r2⟩ := (bp p).mp hb1
    obtain ⟨r3, r4⟩ := (bp q).mp hb2
    unfold kz
    rw [if_neg (fun z => z.elim (fun z => r2 z.1) (fun z => r4 z.1))]
    exact h2 p q hp hq r1 r3 hn
theorem SK_part {pts pcs A B R l k m fi se : Nat} {nr nr' rt po ro : Nat → Nat} {sc kf : Nat → Nat → Nat} (h : SK pts nr rt sc po ro kf) (hT : TI pts nr rt sc k) (hL : Lab pts nr po pcs) (g' : Gr nr') (hA : A < 9) (hB : B < 9) (hx : EdX nr' nr A B) (pA : pts.testBit A = true) (pB : pts.testBit B = true) (hn : ¬ cn nr' A B) (hR : ∀ x, R.testBit x = true ↔ cn nr' B x) (hf : ∀ x, fi.testBit x = true ↔ cn nr' A x) (hs : ∀ x, se.testBit x = true ↔ cn nr' B x) (hl : l < 9) (hlb : pcs.testBit l = false) :
    SK pts nr' rt (kP sc fi se m 9) (pw 9 (fun q => R.testBit q) (fun _ => l) po) (uN' ro l (ro (po A))) (sK (kp kf (po A) l 9) l (po A) m) := by
  obtain ⟨h1, h2⟩ := h
  obtain ⟨l1, l2, l3, l4, l5⟩ := hL
  obtain ⟨i1, i2, i3, i4, i5, i6, i7, i8, i9, i10, i11⟩ := hT
  have vT : ∀ p, p < 9 → cn nr' B p → pw 9 (fun q => R.testBit q) (fun _ => l) po p = l := fun p hp e => pw_in hp ((hR p).mpr e)
  have vF : ∀ p, ¬ cn nr' B p → pw 9 (fun q => R.testBit q) (fun _ => l) po p = po p := fun p e => by
    unfold pw
    rw [if_neg (fun z => e ((hR p).mp z.2))]
  have sy' : ∀ p q, p < 9 → cn nr' p q → cn nr' q p := fun p q hp z => cn_symm g' hp z
  have sy : ∀ p q, p < 9 → cn nr p q → cn nr q p := fun p q hp z => cn_symm i2 hp z
  have up : ∀ p q, cn nr' p q → cn nr p q := fun p q z => cn_more hx z
  have dn : ∀ p q, p < 9 → (cn nr p q ↔ cn nr' p q ∨ (cn nr' p A ∧ cn nr' B q) ∨ (cn nr' p B ∧ cn nr' A q)) := fun p q hp => cn_add g' i2 hA hB hx hp
  have AB : cn nr A B := (dn A B hA).mpr (Or.inr (Or.inl ⟨cn_refl nr' A, cn_refl nr' B⟩))
  have nl : ∀ p, p < 9 → pts.testBit p = true → po p ≠ l := fun p hp q e => by
    have := l3 p hp q
    rw [e, hlb] at this
    cases this
  have inR : ∀ p, p < 9 → cn nr' B p → cn nr A p := fun p hp z => cn_trans AB (up B p z)
  -- q isn't of the two
  have far : ∀ q, q < 9 → ¬ cn nr' B q → ¬ cn nr' A q → ¬ cn nr A q := fun q hq z1 z2 z => by
    rcases (dn A q hA).mp z with y | ⟨-, y⟩ | ⟨y, -⟩
    · exact z2 y
    · exact z1 y
    · exact hn y
  refine ⟨fun p hp hb => ?_, fun p q hp hq hb1 hb2 hnc => ?_⟩
  · by_cases e : cn nr' B p
    · rw [vT p hp e, uN_s, h1 A hA pA]
      exact i8 A p hA hp (Or.inl (inR p hp e))
    · rw [vF p e, uN_n (nl p hp hb)]
      exact h1 p hp hb
  · by_cases e1 : cn nr' B p
    · rw [vT p hp e1]
      have e2 : ¬ cn nr' B q := fun z => hnc (cn_trans (sy' B p hB e1) z)
      rw [vF q e2]
      have pl := nl q hq hb2
      have pAl := nl A hA pA
      by_cases e3 : cn nr' A q
      · have eq : po q = po A := ((l5 A q hA hq pA hb2).mpr (up A q e3)).symm
        rw [eq]
        unfold sK kP
        rw [if_pos (Or.inl ⟨rfl, rfl⟩), if_pos (Or.inr ⟨(hf q).mpr e3, (hs p).mpr e1, hq⟩)]
      · have hfar := far q hq e2 e3
        have ne : po q ≠ po A := fun z => hfar ((l5 A q hA hq pA hb2).mp z.symm)
        unfold sK
        rw [if_neg (fun z => z.elim (fun z => ne z.2) (fun z => pAl z.1.symm))]
        unfold kp kP
        rw [if_pos ⟨rfl, l2 q hq⟩, if_neg pl, if_neg (fun z => z.elim (fun z => e2 ((hs q).mp z.2.1)) (fun z => e3 ((hf q).mp z.1)))]
        rw [h2 A q hA hq pA hb2 hfar]
        exact i6 A p q hA hp hq (inR p hp e1)
    · rw [vF p e1]
      by_cases e2 : cn nr' B q
      · rw [vT q hq e2]
        have pl := nl p hp hb1
        have pAl := nl A hA pA
        by_cases e3 : cn nr' A p
        · have eq : po p = po A := ((l5 A p hA hp pA hb1).mpr (up A p e3)).symm
          rw [eq]
          unfold sK kP
          rw [if_pos (Or.inr ⟨rfl, rfl⟩), if_pos (Or.inl ⟨(hf p).mpr e3, (hs q).mpr e2, hp⟩)]
        · have hfar := far p hp e1 e3
          have ne : po p ≠ po A := fun z => hfar ((l5 A p hA hp pA hb1).mp z.symm)
          unfold sK
          rw [if_neg (fun z => z.elim (fun z => pl z.1) (fun z => ne z.1))]
          unfold kp kP
          rw [if_neg (fun z => pl z.1), if_pos ⟨rfl, l2 p hp⟩, if_neg (fun z => z.elim (fun z => e3 ((hf p).mp z.1)) (fun z => e1 ((hs p).mp z.2.1)))]
          rw [h2 A p hA hp pA hb1 hfar, i4 p q hp hq]
          exact i6 A q p hA hq hp (inR q hq e2)
      · rw [vF q e2]
        have n1 := nl p hp hb1
        have n2 := nl q hq hb2
        unfold sK
        rw [if_neg (fun z => z.elim (fun z => n1 z.1) (fun z => n2 z.2))]
        unfold kp kP
        rw [if_neg (fun z => n1 z.1), if_neg (fun z => n2 z.1), if_neg (fun z => z.elim (fun z => e2 ((hs q).mp z.2.1)) (fun z => e1 ((hs p).mp z.2.1)))]
        refine h2 p q hp hq hb1 hb2 (fun z => ?_)
        rcases (dn p q hp).mp z with y | ⟨-, y⟩ | ⟨y, -⟩
        · exact hnc y
        · exact e2 y
        · exact e1 (sy' p B hp y)
theorem SK_hex {pts pcs A B k : Nat} {nr rt po ro : Nat → Nat} {sc kf : Nat → Nat → Nat} (h : SK pts nr rt sc po ro kf) (hT : TI pts nr rt sc k) (hL : Lab pts nr po pcs) (hA : A < 9) (hB : B < 9) (pA : pts.testBit A = true) (pB : pts.testBit B = true) (hn : ¬ cn nr A B) : ∀ x, bA pcs kf (po A) (po B) (kf (po A) (po B)) x = true → bB pcs kf (po A) (po B) (kf (po A) (po B)) x = true → False := fun x h1 h2 => by
  obtain ⟨a1, a2, a3, a4⟩ := bA_iff.mp h1
  obtain ⟨-, -, -, b4⟩ := bB_iff.mp h2
  obtain ⟨p, hp, pp, e⟩ := hL.2.2.2.1 x a1
  subst e
  have nA : ¬ cn nr A p := fun z => a2 ((hL.2.2.2.2 A p hA hp pA pp).mpr z).symm
  have nB : ¬ cn nr B p := fun z => a3 ((hL.2.2.2.2 B p hB hp pB pp).mpr z).symm
  rw [h.2 A B hA hB pA pB hn] at a4 b4
  rw [h.2 A p hA hp pA pp nA] at a4
  rw [h.2 B p hB hp pB pp nB] at b4
  have u := hT.2.2.2.2.2.2.1 A p B hA hp hB hn
  rw [hT.2.2.2.1 p B hp hB] at u
  omega
theorem SK_join {pts pcs A B k J : Nat} {nr nr' rt rt' po ro : Nat → Nat} {sc sc' kf : Nat → Nat → Nat} (h : SK pts nr rt sc po ro kf) (hT : TI pts nr rt sc k) (hL : Lab pts nr po pcs) (g' : Gr nr') (hA : A < 9) (hB : B < 9) (hx : EdX nr nr' A B) (pA : pts.testBit A = true) (pB : pts.testBit B = true) (hn : ¬ cn nr A B) (hJ : ∀ x, J.testBit x = true ↔ cn nr' A x)
    (hsc : ∀ x y, x < 9 → y < 9 → sc' x y = scJ sc A B J x y)
    (hrt : ∀ x, x < 9 → rt' x = if sc A B = 0 then (if J.testBit x = true ∨ 0 < sc A x ∨ 0 < sc B x then min (rt A) (rt B) else rt x) else rt x) :
    SK pts nr' rt' sc' (pw 9 (fun p => pts.testBit p && Nat.beq (po p) (po B)) (fun _ => po A) po) (if kf (po A) (po B) = 0 then pw 9 (isR pcs kf (po A) (po B)) (fun _ => min (ro (po A)) (ro (po B))) ro else ro) (kj (nd pcs (1 <<< (po B))) (kb pcs kf (po A) (po B) (kf (po A) (po B)) 9 0) (po A) (po B) 9) := by
  obtain ⟨h1, h2⟩ := h
  obtain ⟨l1, l2, l3, l4, l5⟩ := hL
  obtain ⟨i1, i2, i3, i4, i5, i6, i7, i8, i9, i10, i11⟩ := hT
  have kAB := h2 A B hA hB pA pB hn
  have hne : po A ≠ po B := fun z => hn ((l5 A B hA hB pA pB).mp z)
  have cA : ∀ p q, p < 9 → (cn nr' p q ↔ cn nr p q ∨ (cn nr p A ∧ cn nr B q) ∨ (cn nr p B ∧ cn nr A q)) := fun p q hp => cn_add i2 g' hA hB hx hp
  have hJ2 : ∀ x, J.testBit x = true ↔ cn nr A x ∨ cn nr B x := fun x => by
    rw [hJ, cA A x hA]
    constructor
    · rintro (r | ⟨-, r⟩ | ⟨r, -⟩)
      · exact Or.inl r
      · exact Or.inr r
      · exact absurd r hn
    · rintro (r | r)
      · exact Or.inl r
      · exact Or.inr (Or.inl ⟨cn_refl nr A, r⟩)
  have inJ : ∀ p, p < 9 → pts.testBit p = true → (J.testBit p = true ↔ po p = po A ∨ po p = po B) := fun p hp a => by
    rw [hJ2, ← l5 A p hA hp pA a, ← l5 B p hB hp pB a]
    constructor
    · rintro (r | r)
      · exact Or.inl r.symm
      · exact Or.inr r.symm
    · rintro (r | r)
      · exact Or.inl r.symm
      · exact Or.inr r.symm
  have vJ : ∀ p, p < 9 → pts.testBit p = true → J.testBit p = true → pw 9 (fun p => pts.testBit p && Nat.beq (po p) (po B)) (fun _ => po A) po p = po A := fun p hp a e => by
    by_cases z : po p = po B
    · exact pw_in hp (by show (pts.testBit p && Nat.beq (po p) (po B)) = true; rw [a, z]; simp)
    · unfold pw
      rw [if_neg (by rintro ⟨-, q⟩; rw [Bool.and_eq_true] at q; exact z (Nat.eq_of_beq_eq_true q.2))]
      rcases (inJ p hp a).mp e with y | y
      · exact y
      · exact absurd y z
  have vN : ∀ p, p < 9 → pts.testBit p = true → ¬ J.testBit p = true → pw 9 (fun p => pts.testBit p && Nat.beq (po p) (po B)) (fun _ => po A) po p = po p ∧ po p ≠ po A ∧ po p ≠ po B ∧ kf (po A) (po p) = sc A p ∧ kf (po B) (po p) = sc B p := fun p hp a e => by
    have n1 : po p ≠ po A := fun z => e ((inJ p hp a).mpr (Or.inl z))
    have n2 : po p ≠ po B := fun z => e ((inJ p hp a).mpr (Or.inr z))
    refine ⟨?_, n1, n2, h2 A p hA hp pA a (fun z => n1 ((l5 A p hA hp pA a).mpr z).symm), h2 B p hB hp pB a (fun z => n2 ((l5 B p hB hp pB a).mpr z).symm)⟩
    unfold pw
    rw [if_neg (by rintro ⟨-, q⟩; rw [Bool.and_eq_true] at q; exact n2 (Nat.eq_of_beq_eq_true q.2))]
  have bl : ∀ t, (nd pcs (1 <<< po B)).testBit t = true ↔ pcs.testBit t = true ∧ t ≠ po B := fun t => by
    rw [nd_bit, sh_bit, Bool.and_eq_true]
    by_cases e : t = po B
    · simp [e]
    · simp [e]
  refine ⟨fun p hp hb => ?_, fun p q hp hq hb1 hb2 hnc => ?_⟩
  · rw [hrt p hp, kAB]
    by_cases m0 : sc A B = 0
    · rw [if_pos m0, if_pos m0]
      by_cases e : J.testBit p = true
      · rw [vJ p hp hb e, if_pos (Or.inl e)]
        rw [pw_in (l2 A hA) (by unfold isR; simp), h1 A hA pA, h1 B hB pB]
      · obtain ⟨v1, v2, v3, v4, v5⟩ := vN p hp hb e
        rw [v1]
        unfold pw
        have hi : isR pcs kf (po A) (po B) (po p) = true ↔ (J.testBit p = true ∨ 0 < sc A p ∨ 0 < sc B p) := by
          unfold isR
          rw [v4, v5, l3 p hp hb]
          simp [v2, v3, e, Nat.blt_eq]
        by_cases z : J.testBit p = true ∨ 0 < sc A p ∨ 0 < sc B p
        · rw [if_pos ⟨l2 p hp, hi.mpr z⟩, if_pos z, h1 A hA pA, h1 B hB pB]
        · rw [if_neg (fun y => z (hi.mp y.2)), if_neg z]
          exact h1 p hp hb
    · rw [if_neg m0, if_neg m0]
      by_cases e : J.testBit p = true
      · rw [vJ p hp hb e, h1 A hA pA]
        -- the two have one root
        have hr : rt A = rt B := i8 A B hA hB (Or.inr (Nat.pos_of_ne_zero m0))
        rcases (hJ2 p).mp e with z | z
        · exact i8 A p hA hp (Or.inl z)
        · rw [hr]; exact i8 B p hB hp (Or.inl z)
      · rw [(vN p hp hb e).1]
        exact h1 p hp hb
  · rw [hsc p q hp hq]
    unfold scJ
    by_cases e1 : J.testBit p = true
    · have e2 : ¬ J.testBit q = true := fun z => hnc (cn_trans (cn_symm g' hA ((hJ p).mp e1)) ((hJ q).mp z))
      rw [if_pos e1, if_neg e2, vJ p hp hb1 e1]
      obtain ⟨v1, v2, v3, v4, v5⟩ := vN q hq hb2 e2
      rw [v1]
      have hc := cJ_iff (pcs := nd pcs (1 <<< po B)) (kf := kb pcs kf (po A) (po B) (kf (po A) (po B)) 9 0) (one := po A) (oth := po B) (q := po q)
      rw [kb_one, kb_oth, v4, v5] at hc
      unfold kj
      by_cases z : sc A q < sc B q
      · rw [if_pos ⟨rfl, l2 q hq, hc.mpr ⟨(bl _).mpr ⟨l3 q hq hb2, v3⟩, v2, z⟩⟩, kb_oth, v5]
        omega
      · rw [if_neg (fun y => z (hc.mp y.2.2).2.2), if_neg (fun y => v2 y.1), kb_one, v4]
        omega
    · obtain ⟨v1, v2, v3, v4, v5⟩ := vN p hp hb1 e1
      rw [if_neg e1, v1]
      by_cases e2 : J.testBit q = true
      · rw [if_pos e2, vJ q hq hb2 e2]
        have hc := cJ_iff (pcs := nd pcs (1 <<< po B)) (kf := kb pcs kf (po A) (po B) (kf (po A) (po B)) 9 0) (one := po A) (oth := po B) (q := po p)
        rw [kb_one, kb_oth, v4, v5] at hc
        unfold kj
        rw [if_neg (fun y => v2 y.1)]
        by_cases z : sc A p < sc B p
        · rw [if_pos ⟨rfl, l2 p hp, hc.mpr ⟨(bl _).mpr ⟨l3 p hp hb1, v3⟩, v2, z⟩⟩, kb_oth, v5]
          omega
        · rw [if_neg (fun y => z (hc.mp y.2.2).2.2)]
          unfold kb
          rw [if_neg (fun q => (bB_iff.mp q.2.1).2.1 rfl), if_neg (fun q => (bA_iff.mp q.1).2.1 rfl)]
          have nc : ¬ cn nr p A := fun y => e1 ((hJ2 p).mpr (Or.inl (cn_symm i2 hp y)))
          rw [h2 p A hp hA hb1 pA nc, i4 p A hp hA]
          omega
      · rw [if_neg e2]
        obtain ⟨w1, w2, w3, w4, w5⟩ := vN q hq hb2 e2
        rw [w1]
        unfold kj
        rw [if_neg (fun y => v2 y.1), if_neg (fun y => w2 y.1)]
        have nc : ¬ cn nr p q := fun y => hnc ((cA p q hp).mpr (Or.inl y))
        have kpq := h2 p q hp hq hb1 hb2 nc
        have a1 := bA_iff (pcs := pcs) (kf := kf) (one := po A) (oth := po B) (c := kf (po A) (po B)) (x := po p)
        have a2 := bB_iff (pcs := pcs) (kf := kf) (one := po A) (oth := po B) (c := kf (po A) (po B)) (x := po p)
        have a3 := bA_iff (pcs := pcs) (kf := kf) (one := po A) (oth := po B) (c := kf (po A) (po B)) (x := po q)
        have a4 := bB_iff (pcs := pcs) (kf := kf) (one := po A) (oth := po B) (c := kf (po A) (po B)) (x := po q)
        have b1 : bA pcs kf (po A) (po B) (kf (po A) (po B)) (po p) = true ↔ sc A B < sc A p := by
          rw [a1, v4, kAB]
          exact ⟨fun y => y.2.2.2, fun y => ⟨l3 p hp hb1, v2, v3, y⟩⟩
        have b2 : bB pcs kf (po A) (po B) (kf (po A) (po B)) (po p) = true ↔ sc A B < sc B p := by
          rw [a2, v5, kAB]
          exact ⟨fun y => y.2.2.2, fun y => ⟨l3 p hp hb1, v2, v3, y⟩⟩
        have b3 : bA pcs kf (po A) (po B) (kf (po A) (po B)) (po q) = true ↔ sc A B < sc A q := by
          rw [a3, w4, kAB]
          exact ⟨fun y => y.2.2.2, fun y => ⟨l3 q hq hb2, w2, w3, y⟩⟩
        have b4 : bB pcs kf (po A) (po B) (kf (po A) (po B)) (po q) = true ↔ sc A B < sc B q := by
          rw [a4, w5, kAB]
          exact ⟨fun y => y.2.2.2, fun y => ⟨l3 q hq hb2, w2, w3, y⟩⟩
        unfold kb fJ
        have p9 := l2 p hp
        have q9 := l2 q hq
        by_cases z1 : sc A B < sc A p ∧ sc A B < sc B q
        · rw [if_pos ⟨b1.mpr z1.1, b4.mpr z1.2, Or.inl p9⟩, if_pos z1, v4, w5]
        · rw [if_neg (fun y => z1 ⟨b1.mp y.1, b4.mp y.2.1⟩), if_neg z1]
          by_cases z2 : sc A B < sc A q ∧ sc A B < sc B p
          · rw [if_pos ⟨b3.mpr z2.1, b2.mpr z2.2, Or.inl q9⟩, if_pos z2, w4, v5]
          · rw [if_neg (fun y => z2 ⟨b3.mp y.1, b2.mp y.2.1⟩), if_neg z2]
            exact kpq
/-! the greatest kin, by numbers and by points -/
theorem mxK_ge {pcs its : Nat} {r : Nat → Nat} : ∀ i q, q < i → pcs.testBit q = true → q ≠ its → r q ≤ mxK pcs r its i
  | 0, q, h, _, _ => absurd h (Nat.not_lt_zero q)
  | i + 1, q, h, h1, h2 => by
    unfold mxK
    by_cases e : q = i
    · subst e
      by_cases z : mxK pcs r its q < r q
      · rw [if_pos ⟨h1, h2, z⟩]; exact Nat.le_refl _
      · rw [if_neg (fun y => z y.2.2)]; omega
    · have ih := mxK_ge (pcs := pcs) (its := its) (r := r) i q (by omega) h1 h2
      split
      · omega
      · exact ih
theorem mxK_pos {pcs its : Nat} {r : Nat → Nat} : ∀ i, 0 < mxK pcs r its i → ∃ q, q < i ∧ pcs.testBit q = true ∧ q ≠ its ∧ r q = mxK pcs r its i
  | 0, h => absurd h (Nat.lt_irrefl 0)
  | i + 1, h => by
    unfold mxK at h ⊢
    by_cases z : pcs.testBit i = true ∧ i ≠ its ∧ mxK pcs r its i < r i
    · rw [if_pos z]
      exact ⟨i, by omega, z.1, z.2.1, rfl⟩
    · rw [if_neg z] at h ⊢
      obtain ⟨q, a, b, c, e⟩ := mxK_pos i h
      exact ⟨q, by omega, b, c, e⟩
theorem mxS_ge {oth : Nat} {r : Nat → Nat} : ∀ i q, q < i → oth.testBit q = true → r q ≤ mxS oth r i
  | 0, q, h, _ => absurd h (Nat.not_lt_zero q)
  | i + 1, q, h, h1 => by
    unfold mxS
    by_cases e : q = i
    · subst e
      rw [if_pos h1]
      omega
    · have ih := mxS_ge (oth := oth) (r := r) i q (by omega) h1
      split
      · omega
      · exact ih
theorem mx_eq {L left A : Nat} {po : Nat → Nat} {sc kf : Nat → Nat → Nat} (hpo : ∀ p, p < 9 → po p < 9) (h1 : ∀ q, q < 9 → left.testBit q = true → L.testBit (po q) = true ∧ po q ≠ po A ∧ kf (po A) (po q) = sc A q) (h2 : ∀ l, L.testBit l = true → l ≠ po A → ∃ q, q < 9 ∧ left.testBit q = true ∧ po q = l) : mxK L (kf (po A)) (po A) 9 = mxS left (sc A) 9 := by
  apply Nat.le_antisymm
  · rcases Nat.eq_zero_or_pos (mxK L (kf (po A)) (po A) 9) with z | z
    · omega
    · obtain ⟨l, -, a, c, e⟩ := mxK_pos 9 z
      obtain ⟨q, q9, ql, qe⟩ := h2 l a c
      subst qe
      rw [← e, (h1 q q9 ql).2.2]
      exact mxS_ge 9 q q9 ql
  · rcases Nat.eq_zero_or_pos (mxS left (sc A) 9) with z | z
    · omega
    · obtain ⟨q, q9, ql, e⟩ := mxS_pos 9 z
      obtain ⟨a, c, e2⟩ := h1 q q9 ql
      rw [← e, ← e2]
      exact mxK_ge 9 (po q) (hpo q q9) a c
