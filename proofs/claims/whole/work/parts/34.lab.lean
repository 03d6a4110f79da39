/-! Pieces with numbers -/
def Lab (pts : Nat) (nr po : Nat → Nat) (pcs : Nat) : Prop :=
  pcs < 512 ∧ (∀ p, p < 9 → po p < 9) ∧ (∀ p, p < 9 → pts.testBit p = true → pcs.testBit (po p) = true) ∧
  (∀ l, pcs.testBit l = true → ∃ p, p < 9 ∧ pts.testBit p = true ∧ po p = l) ∧
  ∀ p q, p < 9 → q < 9 → pts.testBit p = true → pts.testBit q = true → (po p = po q ↔ cn nr p q)
theorem popc_nd {x p : Nat} (hp : p < 9) (h : x.testBit p = true) : popc (nd x (1 <<< p)) 9 + 1 = popc x 9 := by
  have e : x = nd x (1 <<< p) ||| 1 <<< p := bits_eq fun t => by
    rw [Nat.testBit_or, nd_bit, sh_bit, Bool.or_eq_true, Bool.and_eq_true, decide_eq_true_eq]
    constructor
    · intro q
      by_cases z : t = p
      · exact Or.inr z
      · exact Or.inl ⟨q, by rw [decide_eq_false z]; rfl⟩
    · rintro (⟨q, -⟩ | q)
      · exact q
      · rw [q]; exact h
  have e2 : (nd x (1 <<< p)).testBit p = false := by
    rw [nd_bit, sh_bit, decide_eq_true rfl]
    simp
  have e3 := popc_or e2 9 hp
  rw [← e] at e3
  exact e3.symm
/-- the set of the first values of a function -/
def imM (f : Nat → Nat) : Nat → Nat
  | 0 => 0
  | n + 1 => imM f n ||| 1 <<< f n
theorem imM_bit {f : Nat → Nat} {t : Nat} : ∀ n, (imM f n).testBit t = true ↔ ∃ l, l < n ∧ f l = t
  | 0 => by
    unfold imM
    rw [Nat.zero_testBit]
    constructor
    · intro h; cases h
    · rintro ⟨l, h, -⟩; omega
  | n + 1 => by
    unfold imM
    rw [Nat.testBit_or, Bool.or_eq_true, imM_bit n, sh_bit, decide_eq_true_eq]
    constructor
    · rintro (⟨l, h1, h2⟩ | h)
      · exact ⟨l, by omega, h2⟩
      · exact ⟨n, by omega, h.symm⟩
    · rintro ⟨l, h1, h2⟩
      by_cases e : l = n
      · subst e; exact Or.inr h2.symm
      · exact Or.inl ⟨l, by omega, h2⟩
theorem imM_popc {f : Nat → Nat} (hf : ∀ l, l < 9 → f l < 9) (hi : ∀ l m, l < 9 → m < 9 → f l = f m → l = m) : ∀ n, n ≤ 9 → popc (imM f n) 9 = n
  | 0, _ => by
    unfold imM
    decide
  | n + 1, hn => by
    unfold imM
    have e : (imM f n).testBit (f n) = false := by
      cases q : (imM f n).testBit (f n)
      · rfl
      · obtain ⟨l, h1, h2⟩ := (imM_bit n).mp q
        have := hi l n (by omega) (by omega) h2
        omega
    rw [popc_or e 9 (hf n (by omega)), imM_popc hf hi n (by omega)]
theorem inj_surj {f : Nat → Nat} (hf : ∀ l, l < 9 → f l < 9) (hi : ∀ l m, l < 9 → m < 9 → f l = f m → l = m) {t : Nat} (ht : t < 9) : ∃ l, l < 9 ∧ f l = t := (imM_bit 9).mp (popc_full 9 (imM_popc hf hi 9 (Nat.le_refl 9)) t ht)
/-- not all nine numbers are taken, if a point isn't there or two have one number -/
theorem Lab_free {pts pcs : Nat} {nr po : Nat → Nat} (h : Lab pts nr po pcs) (hx : (∃ a, a < 9 ∧ pts.testBit a = false) ∨ ∃ a b, a < 9 ∧ b < 9 ∧ a ≠ b ∧ pts.testBit a = true ∧ pts.testBit b = true ∧ po a = po b) : ¬ ∀ l, l < 9 → pcs.testBit l = true := by
  intro hall
  obtain ⟨h1, h2, h3, h4, h5⟩ := h
  have hex : ∀ l, ∃ p, l < 9 → p < 9 ∧ pts.testBit p = true ∧ po p = l := fun l => by
    by_cases hl : l < 9
    · obtain ⟨p, q⟩ := h4 l (hall l hl)
      exact ⟨p, fun _ => q⟩
    · exact ⟨0, fun z => absurd z hl⟩
  let f : Nat → Nat := fun l => Classical.choose (hex l)
  have fs : ∀ l, l < 9 → f l < 9 ∧ pts.testBit (f l) = true ∧ po (f l) = l := fun l hl => Classical.choose_spec (hex l) hl
  have sur : ∀ t, t < 9 → ∃ l, l < 9 ∧ f l = t := fun t ht => inj_surj (fun l hl => (fs l hl).1) (fun l m hl hm e => by
    have e1 := (fs l hl).2.2
    have e2 := (fs m hm).2.2
    rw [e] at e1
    exact e1.symm.trans e2) ht
  rcases hx with ⟨a, ha, hn⟩ | ⟨a, b, ha, hb, hne, pa, pb, hab⟩
  · obtain ⟨l, hl, e⟩ := sur a ha
    rw [← e, (fs l hl).2.1] at hn
    cases hn
  · obtain ⟨l, hl, e⟩ := sur a ha
    obtain ⟨m, hm, e'⟩ := sur b hb
    have e1 := (fs l hl).2.2
    have e2 := (fs m hm).2.2
    rw [e] at e1
    rw [e'] at e2
    have : l = m := by rw [← e1, ← e2, hab]
    subst this
    exact hne (e.symm.trans e')
theorem Lab_freeL {pts pcs : Nat} {nr po : Nat → Nat} (h : Lab pts nr po pcs) (hx : (∃ a, a < 9 ∧ pts.testBit a = false) ∨ ∃ a b, a < 9 ∧ b < 9 ∧ a ≠ b ∧ pts.testBit a = true ∧ pts.testBit b = true ∧ po a = po b) : ∀ l, l ≤ 9 → pcs.testBit l = false → (∀ j, j < l → pcs.testBit j = true) → l < 9 := fun l hl _ hj => by
  rcases Nat.lt_or_eq_of_le hl with r | r
  · exact r
  · subst r
    exact absurd hj (Lab_free h hx)
theorem Lab_freeE {pts pcs : Nat} {nr po : Nat → Nat} (h : Lab pts nr po pcs) (hx : (∃ a, a < 9 ∧ pts.testBit a = false) ∨ ∃ a b, a < 9 ∧ b < 9 ∧ a ≠ b ∧ pts.testBit a = true ∧ pts.testBit b = true ∧ po a = po b) : ∃ l, l < 9 ∧ pcs.testBit l = false := by
  apply Classical.byContradiction
  intro hn
  exact Lab_free h hx (fun l hl => by
    cases q : pcs.testBit l
    · exact absurd ⟨l, hl, q⟩ hn
    · rfl)
theorem Lab_0 {nr po : Nat → Nat} (hp : ∀ p, p < 9 → po p < 9) : Lab 0 nr po 0 := by
  have z : ∀ t, ¬ (0 : Nat).testBit t = true := fun t => by rw [Nat.zero_testBit]; decide
  exact ⟨by decide, hp, fun p _ h => absurd h (z p), fun l h => absurd h (z l), fun p q _ _ h => absurd h (z p)⟩
theorem Lab_same {pts pcs : Nat} {nr nr' po : Nat → Nat} (h : Lab pts nr po pcs) (hc : ∀ p q, p < 9 → (cn nr' p q ↔ cn nr p q)) : Lab pts nr' po pcs := ⟨h.1, h.2.1, h.2.2.1, h.2.2.2.1, fun p q hp hq a b => (h.2.2.2.2 p q hp hq a b).trans (hc p q hp).symm⟩
theorem Lab_come {pts pcs A l : Nat} {nr po : Nat → Nat} (h : Lab pts nr po pcs) (g : Gr nr) (hA : A < 9) (ha : pts.testBit A = false) (iso : ∀ t, (nr A).testBit t = false) (hl : l < 9) (hlb : pcs.testBit l = false) : Lab (pts ^^^ 1 <<< A) nr (uN' po A l) (pcs ||| 1 <<< l) := by
  obtain ⟨h1, h2, h3, h4, h5⟩ := h
  have bp : ∀ t, (pts ^^^ 1 <<< A).testBit t = true ↔ pts.testBit t = true ∨ t = A := fun t => by
    rw [xor_bit]
    by_cases e : t = A
    · subst e; simp [ha]
    · simp [e]
  have bl : ∀ t, (pcs ||| 1 <<< l).testBit t = true ↔ pcs.testBit t = true ∨ t = l := fun t => by
    rw [Nat.testBit_or, sh_bit, Bool.or_eq_true, decide_eq_true_eq]
  have nA : ∀ p, pts.testBit p = true → p ≠ A := fun p q e => by rw [e, ha] at q; cases q
  refine ⟨or_lt (n := 9) h1 (sh_lt hl), fun p hp => ?_, fun p hp hb => ?_, fun m hm => ?_, fun p q hp hq hb1 hb2 => ?_⟩
  · by_cases e : p = A
    · rw [e, uN_s]; exact hl
    · rw [uN_n e]; exact h2 p hp
  · rw [bl]
    rcases (bp p).mp hb with r | r
    · rw [uN_n (nA p r)]
      exact Or.inl (h3 p hp r)
    · rw [r, uN_s]
      exact Or.inr rfl
  · rcases (bl m).mp hm with r | r
    · obtain ⟨p, q1, q2, q3⟩ := h4 m r
      exact ⟨p, q1, (bp p).mpr (Or.inl q2), by rw [uN_n (nA p q2)]; exact q3⟩
    · exact ⟨A, hA, (bp A).mpr (Or.inr rfl), by rw [uN_s]; exact r.symm⟩
  · rcases (bp p).mp hb1 with r1 | r1
    · rw [uN_n (nA p r1)]
      rcases (bp q).mp hb2 with r2 | r2
      · rw [uN_n (nA q r2)]
        exact h5 p q hp hq r1 r2
      · subst r2
        rw [uN_s]
        constructor
        · intro e
          have e2 := h3 p hp r1
          rw [e, hlb] at e2
          cases e2
        · intro e
          exact absurd (cn_iso iso (cn_symm g hp e)) (nA p r1)
    · subst r1
      rw [uN_s]
      rcases (bp q).mp hb2 with r2 | r2
      · rw [uN_n (nA q r2)]
        constructor
        · intro e
          have e2 := h3 q hq r2
          rw [← e, hlb] at e2
          cases e2
        · intro e
          exact absurd (cn_iso iso e) (nA q r2)
      · subst r2
        rw [uN_s]
        exact ⟨fun _ => cn_refl nr q, fun _ => rfl⟩
theorem Lab_go {pts pcs A : Nat} {nr po : Nat → Nat} (h : Lab pts nr po pcs) (g : Gr nr) (hA : A < 9) (ha : pts.testBit A = true) (iso : ∀ t, (nr A).testBit t = false) : Lab (pts ^^^ 1 <<< A) nr po (nd pcs (1 <<< po A)) := by
  obtain ⟨h1, h2, h3, h4, h5⟩ := h
  have bp : ∀ t, (pts ^^^ 1 <<< A).testBit t = true ↔ pts.testBit t = true ∧ t ≠ A := fun t => by
    rw [xor_bit]
    by_cases e : t = A
    · subst e; simp [ha]
    · simp [e]
  have bl : ∀ t, (nd pcs (1 <<< po A)).testBit t = true ↔ pcs.testBit t = true ∧ t ≠ po A := fun t => by
    rw [nd_bit, sh_bit, Bool.and_eq_true]
    by_cases e : t = po A
    · simp [e]
    · simp [e]
  refine ⟨nd_lt (n := 9) h1, h2, fun p hp hb => ?_, fun m hm => ?_, fun p q hp hq hb1 hb2 => h5 p q hp hq ((bp p).mp hb1).1 ((bp q).mp hb2).1⟩
  · obtain ⟨r1, r2⟩ := (bp p).mp hb
    refine (bl _).mpr ⟨h3 p hp r1, fun e => ?_⟩
    exact r2 (cn_iso iso (cn_symm g hp ((h5 p A hp hA r1 ha).mp e)))
  · obtain ⟨r1, r2⟩ := (bl m).mp hm
    obtain ⟨p, q1, q2, q3⟩ := h4 m r1
    exact ⟨p, q1, (bp p).mpr ⟨q2, fun e => r2 (by rw [← q3, e])⟩, q3⟩
theorem Lab_join {pts pcs A B : Nat} {nr nr' po : Nat → Nat} (h : Lab pts nr po pcs) (g : Gr nr) (g' : Gr nr') (hA : A < 9) (hB : B < 9) (hx : EdX nr nr' A B) (pA : pts.testBit A = true) (pB : pts.testBit B = true) (hne : po A ≠ po B) : Lab pts nr' (pw 9 (fun p => pts.testBit p && Nat.beq (po p) (po B)) (fun _ => po A) po) (nd pcs (1 <<< po B)) := by
  obtain ⟨h1, h2, h3, h4, h5⟩ := h
  have bl : ∀ t, (nd pcs (1 <<< po B)).testBit t = true ↔ pcs.testBit t = true ∧ t ≠ po B := fun t => by
    rw [nd_bit, sh_bit, Bool.and_eq_true]
    by_cases e : t = po B
    · simp [e]
    · simp [e]
  have vT : ∀ p, p < 9 → pts.testBit p = true → po p = po B → pw 9 (fun p => pts.testBit p && Nat.beq (po p) (po B)) (fun _ => po A) po p = po A := fun p hp a e => pw_in hp (by show (pts.testBit p && Nat.beq (po p) (po B)) = true; rw [a, e]; simp)
  have vF : ∀ p, po p ≠ po B → pw 9 (fun p => pts.testBit p && Nat.beq (po p) (po B)) (fun _ => po A) po p = po p := fun p e => by
    unfold pw
    rw [if_neg]
    rintro ⟨-, q⟩
    rw [Bool.and_eq_true] at q
    exact e (Nat.eq_of_beq_eq_true q.2)
  refine ⟨nd_lt (n := 9) h1, fun p hp => ?_, fun p hp hb => ?_, fun m hm => ?_, fun p q hp hq hb1 hb2 => ?_⟩
  · unfold pw
    split
    · exact h2 A hA
    · exact h2 p hp
  · rw [bl]
    by_cases e : po p = po B
    · rw [vT p hp hb e]
      exact ⟨h3 A hA pA, hne⟩
    · rw [vF p e]
      exact ⟨h3 p hp hb, e⟩
  · obtain ⟨r1, r2⟩ := (bl m).mp hm
    obtain ⟨p, q1, q2, q3⟩ := h4 m r1
    exact ⟨p, q1, q2, by rw [vF p (by rw [q3]; exact r2)]; exact q3⟩
  · rw [cn_add g g' hA hB hx hp]
    have eA : ∀ x, x < 9 → pts.testBit x = true → (po x = po A ↔ cn nr x A) := fun x hx9 a => h5 x A hx9 hA a pA
    have eB : ∀ x, x < 9 → pts.testBit x = true → (po x = po B ↔ cn nr x B) := fun x hx9 a => h5 x B hx9 hB a pB
    have eA' : ∀ x, x < 9 → pts.testBit x = true → (po A = po x ↔ cn nr A x) := fun x hx9 a => h5 A x hA hx9 pA a
    have eB' : ∀ x, x < 9 → pts.testBit x = true → (po B = po x ↔ cn nr B x) := fun x hx9 a => h5 B x hB hx9 pB a
    rw [← h5 p q hp hq hb1 hb2, ← eA p hp hb1, ← eB' q hq hb2, ← eB p hp hb1, ← eA' q hq hb2]
    by_cases e1 : po p = po B
    · rw [vT p hp hb1 e1]
      by_cases e2 : po q = po B
      · rw [vT q hq hb2 e2]
        exact ⟨fun _ => Or.inl (e1.trans e2.symm), fun _ => rfl⟩
      · rw [vF q e2]
        constructor
        · exact fun z => Or.inr (Or.inr ⟨e1, z⟩)
        · rintro (z | ⟨z1, z2⟩ | ⟨-, z⟩)
          · exact absurd (z.symm.trans e1) e2
          · exact absurd z2.symm e2
          · exact z
    · rw [vF p e1]
      by_cases e2 : po q = po B
      · rw [vT q hq hb2 e2]
        constructor
        · exact fun z => Or.inr (Or.inl ⟨z, e2.symm⟩)
        · rintro (z | ⟨z, -⟩ | ⟨z, -⟩)
          · exact absurd (z.trans e2) e1
          · exact z
          · exact absurd z e1
      · rw [vF q e2]
        constructor
        · exact Or.inl
        · rintro (z | ⟨-, z⟩ | ⟨z, -⟩)
          · exact z
          · exact absurd z.symm e2
          · exact absurd z e1
/-- nr' is the graph without the edge -/
theorem Lab_part {pts pcs A B R l : Nat} {nr nr' po : Nat → Nat} (h : Lab pts nr po pcs) (g : Gr nr) (g' : Gr nr') (hA : A < 9) (hB : B < 9) (hx : EdX nr' nr A B) (pA : pts.testBit A = true) (pB : pts.testBit B = true) (hn : ¬ cn nr' A B) (hR : ∀ x, R.testBit x = true ↔ cn nr' B x) (hl : l < 9) (hlb : pcs.testBit l = false) : Lab pts nr' (pw 9 (fun q => R.testBit q) (fun _ => l) po) (pcs ||| 1 <<< l) := by
  obtain ⟨h1, h2, h3, h4, h5⟩ := h
  have bl : ∀ t, (pcs ||| 1 <<< l).testBit t = true ↔ pcs.testBit t = true ∨ t = l := fun t => by
    rw [Nat.testBit_or, sh_bit, Bool.or_eq_true, decide_eq_true_eq]
  have vT : ∀ p, p < 9 → cn nr' B p → pw 9 (fun q => R.testBit q) (fun _ => l) po p = l := fun p hp e => pw_in hp ((hR p).mpr e)
  have vF : ∀ p, ¬ cn nr' B p → pw 9 (fun q => R.testBit q) (fun _ => l) po p = po p := fun p e => by
    unfold pw
    rw [if_neg (fun z => e ((hR p).mp z.2))]
  have sy : ∀ p q, p < 9 → cn nr' p q → cn nr' q p := fun p q hp z => cn_symm g' hp z
  have dn : ∀ p q, p < 9 → (cn nr p q ↔ cn nr' p q ∨ (cn nr' p A ∧ cn nr' B q) ∨ (cn nr' p B ∧ cn nr' A q)) := fun p q hp => cn_add g' g hA hB hx hp
  refine ⟨or_lt (n := 9) h1 (sh_lt hl), fun p hp => ?_, fun p hp hb => ?_, fun m hm => ?_, fun p q hp hq hb1 hb2 => ?_⟩
  · unfold pw
    split
    · exact hl
    · exact h2 p hp
  · rw [bl]
    by_cases e : cn nr' B p
    · rw [vT p hp e]; exact Or.inr rfl
    · rw [vF p e]; exact Or.inl (h3 p hp hb)
  · rcases (bl m).mp hm with r | r
    · obtain ⟨p, q1, q2, q3⟩ := h4 m r
      by_cases e : cn nr' B p
      · -- the number stays with A
        refine ⟨A, hA, pA, ?_⟩
        rw [vF A (fun z => hn (sy B A hB z))]
        rw [← q3]
        refine (h5 A p hA q1 pA q2).mpr ((dn A p hA).mpr (Or.inr (Or.inl ⟨cn_refl nr' A, e⟩)))
      · exact ⟨p, q1, q2, by rw [vF p e]; exact q3⟩
    · exact ⟨B, hB, pB, by rw [vT B hB (cn_refl nr' B)]; exact r.symm⟩
  · have old := h5 p q hp hq hb1 hb2
    by_cases e1 : cn nr' B p
    · rw [vT p hp e1]
      by_cases e2 : cn nr' B q
      · rw [vT q hq e2]
        exact ⟨fun _ => cn_trans (sy B p hB e1) e2, fun _ => rfl⟩
      · rw [vF q e2]
        constructor
        · intro e
          have e3 := h3 q hq hb2
          rw [← e, hlb] at e3
          cases e3
        · exact fun z => absurd (cn_trans e1 z) e2
    · rw [vF p e1]
      by_cases e2 : cn nr' B q
      · rw [vT q hq e2]
        constructor
        · intro e
          have e3 := h3 p hp hb1
          rw [e, hlb] at e3
          cases e3
        · exact fun z => absurd (cn_trans e2 (sy p q hp z)) e1
      · rw [vF q e2, old, dn p q hp]
        constructor
        · rintro (z | ⟨-, z⟩ | ⟨z, -⟩)
          · exact z
          · exact absurd z e2
          · exact absurd (sy p B hp z) e1
        · exact Or.inl
