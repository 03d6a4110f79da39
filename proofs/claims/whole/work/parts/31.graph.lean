/-! Graphs of nine points: what hangs together -/
def cn (nr : Nat → Nat) (p q : Nat) : Prop := ∀ S, S.testBit p = true → ClR nr S → S.testBit q = true
theorem cn_refl (nr : Nat → Nat) (p : Nat) : cn nr p p := fun _ h _ => h
theorem cn_trans {nr : Nat → Nat} {p q r : Nat} (h1 : cn nr p q) (h2 : cn nr q r) : cn nr p r := fun S a b => h2 S (h1 S a b) b
theorem cn_edge {nr : Nat → Nat} {p q : Nat} (hp : p < 9) (h : (nr p).testBit q = true) : cn nr p q := fun S a b => b p hp a q h
theorem cn_R {nr : Nat → Nat} {p q R : Nat} (h : IsR nr p R) : R.testBit q = true ↔ cn nr p q := ⟨fun a S b c => h.2.2.2 S b c q a, fun a => a R h.2.1 h.2.2.1⟩
/-- the set of the points below n of which something holds -/
noncomputable def mk9 (P : Nat → Prop) : Nat → Nat
  | 0 => 0
  | n + 1 => mk9 P n ||| @ite Nat (P n) (Classical.propDecidable _) (1 <<< n) 0
theorem mk9_bit {P : Nat → Prop} {t : Nat} : ∀ n, (mk9 P n).testBit t = true ↔ t < n ∧ P t
  | 0 => by
    unfold mk9
    rw [Nat.zero_testBit]
    simp
  | n + 1 => by
    unfold mk9
    rw [Nat.testBit_or, Bool.or_eq_true, mk9_bit n]
    by_cases h : P n
    · rw [if_pos h, sh_bit, decide_eq_true_eq]
      constructor
      · rintro (⟨h1, h2⟩ | h1)
        · exact ⟨by omega, h2⟩
        · subst h1; exact ⟨by omega, h⟩
      · rintro ⟨h1, h2⟩
        by_cases e : t = n
        · exact Or.inr e
        · exact Or.inl ⟨by omega, h2⟩
    · rw [if_neg h, Nat.zero_testBit]
      constructor
      · rintro (⟨h1, h2⟩ | h1)
        · exact ⟨by omega, h2⟩
        · cases h1
      · rintro ⟨h1, h2⟩
        refine Or.inl ⟨?_, h2⟩
        by_cases e : t = n
        · subst e; exact absurd h2 h
        · omega
theorem mk9_lt (P : Nat → Prop) : mk9 P 9 < 512 := lt_of_bits (n := 9) fun i hi => by
  cases e : (mk9 P 9).testBit i
  · rfl
  · have := ((mk9_bit 9).mp e).1; omega
/-- a graph: edges both ways, no edge to itself, within the nine -/
def Gr (nr : Nat → Nat) : Prop := (∀ p, p < 9 → nr p < 512) ∧ (∀ p q, p < 9 → q < 9 → (nr p).testBit q = true → (nr q).testBit p = true) ∧ ∀ p, p < 9 → (nr p).testBit p = false
theorem Gr_lt {nr : Nat → Nat} (g : Gr nr) {p q : Nat} (hp : p < 9) (h : (nr p).testBit q = true) : q < 9 := lt9 (g.1 p hp) h
theorem cn_lt {nr : Nat → Nat} (g : Gr nr) {p q : Nat} (hp : p < 9) (h : cn nr p q) : q < 9 := by
  have h1 := h (mk9 (fun _ => True) 9) ((mk9_bit 9).mpr ⟨hp, trivial⟩) (fun x hx _ t ht => (mk9_bit 9).mpr ⟨Gr_lt g hx ht, trivial⟩)
  exact ((mk9_bit 9).mp h1).1
theorem cn_symm {nr : Nat → Nat} (g : Gr nr) {p q : Nat} (hp : p < 9) (h : cn nr p q) : cn nr q p := by
  intro S a b
  by_cases e : S.testBit p = true
  · exact e
  · have h1 := h (mk9 (fun t => ¬ S.testBit t = true) 9) ((mk9_bit 9).mpr ⟨hp, e⟩) (fun x hx hx2 t ht => by
      obtain ⟨-, hx3⟩ := (mk9_bit 9).mp hx2
      have ht9 := Gr_lt g hx ht
      exact (mk9_bit 9).mpr ⟨ht9, fun q => hx3 (b t ht9 q x (g.2.1 x t hx ht9 ht))⟩)
    exact absurd a ((mk9_bit 9).mp h1).2
theorem IsR_ex {nr : Nat → Nat} (g : Gr nr) {p : Nat} (hp : p < 9) : IsR nr p (mk9 (cn nr p) 9) := by
  refine ⟨mk9_lt _, (mk9_bit 9).mpr ⟨hp, cn_refl nr p⟩, fun x hx hx2 t ht => ?_, fun S a b t ht => ((mk9_bit 9).mp ht).2 S a b⟩
  exact (mk9_bit 9).mpr ⟨Gr_lt g hx ht, cn_trans ((mk9_bit 9).mp hx2).2 (cn_edge hx ht)⟩
theorem pOf_bit {nr : Nat → Nat} (g : Gr nr) {p q : Nat} (hp : p < 9) : (pOf nr p).testBit q = true ↔ cn nr p q := by
  rw [← IsR_pOf (IsR_ex g hp)]
  exact cn_R (IsR_ex g hp)
/-- two graphs that differ by the edge of A and B -/
def EdX (nr nr' : Nat → Nat) (A B : Nat) : Prop := ∀ p q, p < 9 → ((nr' p).testBit q = true ↔ (nr p).testBit q = true ∨ (p = A ∧ q = B) ∨ (p = B ∧ q = A))
theorem cn_more {nr nr' : Nat → Nat} {A B p q : Nat} (h : EdX nr nr' A B) (hc : cn nr p q) : cn nr' p q := fun S a b => hc S a (fun x hx hx2 t ht => b x hx hx2 t ((h x t hx).mpr (Or.inl ht)))
theorem cn_add {nr nr' : Nat → Nat} {A B p q : Nat} (g : Gr nr) (g' : Gr nr') (hA : A < 9) (hB : B < 9) (h : EdX nr nr' A B) (hp : p < 9) : cn nr' p q ↔ cn nr p q ∨ (cn nr p A ∧ cn nr B q) ∨ (cn nr p B ∧ cn nr A q) := by
  have eAB : cn nr' A B := cn_edge hA ((h A B hA).mpr (Or.inr (Or.inl ⟨rfl, rfl⟩)))
  have eBA : cn nr' B A := cn_edge hB ((h B A hB).mpr (Or.inr (Or.inr ⟨rfl, rfl⟩)))
  constructor
  · intro hc
    have h1 := hc (mk9 (fun t => cn nr p t ∨ (cn nr p A ∧ cn nr B t) ∨ (cn nr p B ∧ cn nr A t)) 9) ((mk9_bit 9).mpr ⟨hp, Or.inl (cn_refl nr p)⟩) (fun x hx hx2 t ht => by
      obtain ⟨-, hx3⟩ := (mk9_bit 9).mp hx2
      refine (mk9_bit 9).mpr ⟨Gr_lt g' hx ht, ?_⟩
      rcases (h x t hx).mp ht with e | ⟨e1, e2⟩ | ⟨e1, e2⟩
      · have e3 := cn_edge hx e
        rcases hx3 with r | ⟨r1, r2⟩ | ⟨r1, r2⟩
        · exact Or.inl (cn_trans r e3)
        · exact Or.inr (Or.inl ⟨r1, cn_trans r2 e3⟩)
        · exact Or.inr (Or.inr ⟨r1, cn_trans r2 e3⟩)
      · subst e1; subst e2
        rcases hx3 with r | ⟨r1, r2⟩ | ⟨r1, r2⟩
        · exact Or.inr (Or.inl ⟨r, cn_refl nr t⟩)
        · exact Or.inr (Or.inl ⟨r1, cn_refl nr t⟩)
        · exact Or.inl r1
      · subst e1; subst e2
        rcases hx3 with r | ⟨r1, r2⟩ | ⟨r1, r2⟩
        · exact Or.inr (Or.inr ⟨r, cn_refl nr t⟩)
        · exact Or.inl r1
        · exact Or.inr (Or.inr ⟨r1, cn_refl nr t⟩))
    exact ((mk9_bit 9).mp h1).2
  · rintro (r | ⟨r1, r2⟩ | ⟨r1, r2⟩)
    · exact cn_more h r
    · exact cn_trans (cn_more h r1) (cn_trans eAB (cn_more h r2))
    · exact cn_trans (cn_more h r1) (cn_trans eBA (cn_more h r2))
/-- an edge changed -/
theorem nrX_bit {nr : Nat → Nat} {A B p q : Nat} (hne : A ≠ B) : (nrX nr A B p).testBit q = ((nr p).testBit q ^^ (decide (p = A ∧ q = B) || decide (p = B ∧ q = A))) := by
  unfold nrX
  by_cases hB : p = B
  · subst hB
    rw [uN_s, uN_n (by omega), Nat.testBit_xor, sh_bit]
    have e1 : decide (p = A ∧ q = p) = false := decide_eq_false (by omega)
    have e2 : decide (p = p ∧ q = A) = decide (q = A) := by simp
    rw [e1, e2, Bool.false_or]
  · rw [uN_n hB]
    by_cases hA : p = A
    · subst hA
      rw [uN_s, Nat.testBit_xor, sh_bit]
      have e1 : decide (p = B ∧ q = p) = false := decide_eq_false (by omega)
      have e2 : decide (p = p ∧ q = B) = decide (q = B) := by simp
      rw [e1, e2, Bool.or_false]
    · rw [uN_n hA]
      have e1 : decide (p = A ∧ q = B) = false := decide_eq_false (by omega)
      have e2 : decide (p = B ∧ q = A) = false := decide_eq_false (by omega)
      rw [e1, e2]
      simp
theorem nrX_on {nr : Nat → Nat} {A B : Nat} (g : Gr nr) (hA : A < 9) (hB : B < 9) (hne : A ≠ B) (h : (nr A).testBit B = false) : EdX nr (nrX nr A B) A B := by
  have h2 : (nr B).testBit A = false := by
    cases e : (nr B).testBit A
    · rfl
    · rw [g.2.1 B A hB hA e] at h; cases h
  intro p q hp
  rw [nrX_bit hne]
  by_cases e1 : p = A ∧ q = B
  · obtain ⟨rfl, rfl⟩ := e1
    simp [h]
  · by_cases e2 : p = B ∧ q = A
    · obtain ⟨rfl, rfl⟩ := e2
      simp [h2]
    · rw [decide_eq_false e1, decide_eq_false e2]
      simp only [Bool.or_false, Bool.xor_false]
      constructor
      · exact Or.inl
      · rintro (r | r | r)
        · exact r
        · exact absurd r e1
        · exact absurd r e2
theorem nrX_off {nr : Nat → Nat} {A B : Nat} (g : Gr nr) (hA : A < 9) (hB : B < 9) (hne : A ≠ B) (h : (nr A).testBit B = true) : EdX (nrX nr A B) nr A B := by
  have h2 : (nr B).testBit A = true := g.2.1 A B hA hB h
  intro p q hp
  rw [nrX_bit hne]
  by_cases e1 : p = A ∧ q = B
  · obtain ⟨rfl, rfl⟩ := e1
    simp [h]
  · by_cases e2 : p = B ∧ q = A
    · obtain ⟨rfl, rfl⟩ := e2
      simp [h2]
    · rw [decide_eq_false e1, decide_eq_false e2]
      simp only [Bool.or_false, Bool.xor_false]
      constructor
      · exact Or.inl
      · rintro (r | r | r)
        · exact r
        · exact absurd r e1
        · exact absurd r e2
theorem nrX_Gr {nr : Nat → Nat} {A B : Nat} (g : Gr nr) (hA : A < 9) (hB : B < 9) (hne : A ≠ B) : Gr (nrX nr A B) := by
  refine ⟨fun p hp => ?_, fun p q hp hq h => ?_, fun p hp => ?_⟩
  · refine lt_of_bits (n := 9) fun i hi => ?_
    rw [nrX_bit hne, bit_lt (n := 9) (g.1 p hp) hi, decide_eq_false (by omega), decide_eq_false (by omega)]
    rfl
  · rw [nrX_bit hne] at h ⊢
    have e : (nr q).testBit p = (nr p).testBit q := by
      cases e1 : (nr p).testBit q
      · cases e2 : (nr q).testBit p
        · rfl
        · rw [g.2.1 q p hq hp e2] at e1; cases e1
      · exact g.2.1 p q hp hq e1
    rw [e]
    have e3 : (decide (q = A ∧ p = B) || decide (q = B ∧ p = A)) = (decide (p = A ∧ q = B) || decide (p = B ∧ q = A)) := by
      rw [Bool.or_comm]
      congr 1
      · exact decide_eq_decide.mpr ⟨fun r => ⟨r.2, r.1⟩, fun r => ⟨r.2, r.1⟩⟩
      · exact decide_eq_decide.mpr ⟨fun r => ⟨r.2, r.1⟩, fun r => ⟨r.2, r.1⟩⟩
    rw [e3]
    exact h
  · rw [nrX_bit hne, g.2.2 p hp, decide_eq_false (by omega), decide_eq_false (by omega)]
    rfl
