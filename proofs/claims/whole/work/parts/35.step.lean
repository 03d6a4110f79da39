/-! A story's state and its step: points, edges (how many), edges (whose), roots, kin, ended bars in their order -/
abbrev TT : Type := Nat × Nat × (Nat → Nat) × (Nat → Nat) × (Nat → Nat → Nat) × List (Nat × Nat)
def bG (m r : Nat) : Nat := if 0 < m then m else r
noncomputable def tS (ac k : Nat) (τ : TT) : TT :=
  if ac >>> 8 = 0 then (τ.1 ^^^ 1 <<< (ac >>> 4 &&& 15), τ.2.1, τ.2.2.1, uN' τ.2.2.2.1 (ac >>> 4 &&& 15) k, τ.2.2.2.2.1, τ.2.2.2.2.2)
  else if ac >>> 8 = 1 then (τ.1 ^^^ 1 <<< (ac >>> 4 &&& 15), τ.2.1, τ.2.2.1, uN' τ.2.2.2.1 (ac >>> 4 &&& 15) 0, kz τ.2.2.2.2.1 (ac >>> 4 &&& 15) 9, τ.2.2.2.2.2 ++ [(bG (mxS (τ.1 ^^^ 1 <<< (ac >>> 4 &&& 15)) (τ.2.2.2.2.1 (ac >>> 4 &&& 15)) 9) (τ.2.2.2.1 (ac >>> 4 &&& 15)), k)])
  else if ac >>> 8 = 2 then
    (if (pOf τ.2.2.1 (ac >>> 4 &&& 15)).testBit (ac &&& 15) = true then (τ.1, τ.2.1 + 1, nrX τ.2.2.1 (ac >>> 4 &&& 15) (ac &&& 15), τ.2.2.2.1, τ.2.2.2.2.1, τ.2.2.2.2.2)
     else (τ.1, τ.2.1 + 1, nrX τ.2.2.1 (ac >>> 4 &&& 15) (ac &&& 15),
      (if τ.2.2.2.2.1 (ac >>> 4 &&& 15) (ac &&& 15) = 0 then pw 9 (lR (pOf (nrX τ.2.2.1 (ac >>> 4 &&& 15) (ac &&& 15)) (ac >>> 4 &&& 15)) (wv (pOf (nrX τ.2.2.1 (ac >>> 4 &&& 15) (ac &&& 15)) (ac >>> 4 &&& 15)) (τ.2.2.2.2.1 (ac >>> 4 &&& 15))) (wv (pOf (nrX τ.2.2.1 (ac >>> 4 &&& 15) (ac &&& 15)) (ac >>> 4 &&& 15)) (τ.2.2.2.2.1 (ac &&& 15)))) (fun _ => min (τ.2.2.2.1 (ac >>> 4 &&& 15)) (τ.2.2.2.1 (ac &&& 15))) τ.2.2.2.1 else τ.2.2.2.1),
      sj (τ.2.2.2.2.1 (ac >>> 4 &&& 15) (ac &&& 15)) (pOf (nrX τ.2.2.1 (ac >>> 4 &&& 15) (ac &&& 15)) (ac >>> 4 &&& 15)) (wv (pOf (nrX τ.2.2.1 (ac >>> 4 &&& 15) (ac &&& 15)) (ac >>> 4 &&& 15)) (τ.2.2.2.2.1 (ac >>> 4 &&& 15))) (wv (pOf (nrX τ.2.2.1 (ac >>> 4 &&& 15) (ac &&& 15)) (ac >>> 4 &&& 15)) (τ.2.2.2.2.1 (ac &&& 15))) τ.2.2.2.2.1 9,
      τ.2.2.2.2.2 ++ [(bG (τ.2.2.2.2.1 (ac >>> 4 &&& 15) (ac &&& 15)) (max (τ.2.2.2.1 (ac >>> 4 &&& 15)) (τ.2.2.2.1 (ac &&& 15))), k)]))
  else
    (if (pOf (nrX τ.2.2.1 (ac >>> 4 &&& 15) (ac &&& 15)) (ac >>> 4 &&& 15)).testBit (ac &&& 15) = true then (τ.1, τ.2.1 - 1, nrX τ.2.2.1 (ac >>> 4 &&& 15) (ac &&& 15), τ.2.2.2.1, τ.2.2.2.2.1, τ.2.2.2.2.2)
     else (τ.1, τ.2.1 - 1, nrX τ.2.2.1 (ac >>> 4 &&& 15) (ac &&& 15), τ.2.2.2.1, kP τ.2.2.2.2.1 (pOf (nrX τ.2.2.1 (ac >>> 4 &&& 15) (ac &&& 15)) (ac >>> 4 &&& 15)) (pOf (nrX τ.2.2.1 (ac >>> 4 &&& 15) (ac &&& 15)) (ac &&& 15)) k 9, τ.2.2.2.2.2))
/-- the edges counted -/
def esum (nr : Nat → Nat) : Nat → Nat
  | 0 => 0
  | i + 1 => esum nr i + popc (nr i) 9
theorem esum_u {nr : Nat → Nat} {A v : Nat} : ∀ m, (m ≤ A → esum (uN' nr A v) m = esum nr m) ∧ (A < m → esum (uN' nr A v) m + popc (nr A) 9 = esum nr m + popc v 9)
  | 0 => ⟨fun _ => rfl, fun h => absurd h (Nat.not_lt_zero A)⟩
  | m + 1 => by
    have ih := esum_u (nr := nr) (A := A) (v := v) m
    constructor
    · intro h
      unfold esum
      rw [ih.1 (by omega), uN_n (by omega)]
    · intro h
      unfold esum
      by_cases e : m = A
      · subst e
        rw [ih.1 (Nat.le_refl m), uN_s]
        omega
      · rw [uN_n e]
        have := ih.2 (by omega)
        omega
theorem popc_congr {x y : Nat} (h : ∀ i, i < 9 → x.testBit i = y.testBit i) : ∀ n, n ≤ 9 → popc x n = popc y n
  | 0, _ => rfl
  | n + 1, hn => by
    unfold popc
    rw [popc_congr h n (by omega), h n (by omega)]
theorem popc_on {x p : Nat} (hp : p < 9) (h : x.testBit p = false) : popc (x ^^^ 1 <<< p) 9 = popc x 9 + 1 := by
  rw [← popc_or h 9 hp]
  refine popc_congr (fun i _ => ?_) 9 (Nat.le_refl 9)
  rw [xor_bit, Nat.testBit_or, sh_bit]
  by_cases e : i = p
  · subst e; simp [h]
  · simp [e]
theorem popc_off {x p : Nat} (hp : p < 9) (h : x.testBit p = true) : popc (x ^^^ 1 <<< p) 9 + 1 = popc x 9 := by
  rw [← popc_nd hp h]
  congr 1
  refine popc_congr (fun i _ => ?_) 9 (Nat.le_refl 9)
  rw [xor_bit, nd_bit, sh_bit]
  by_cases e : i = p
  · subst e; simp [h]
  · simp [e]
theorem esum_on {nr : Nat → Nat} {A B : Nat} (g : Gr nr) (hA : A < 9) (hB : B < 9) (hne : A ≠ B) (h : (nr A).testBit B = false) : esum (nrX nr A B) 9 = esum nr 9 + 2 := by
  have h2 : (nr B).testBit A = false := by
    cases e : (nr B).testBit A
    · rfl
    · rw [g.2.1 B A hB hA e] at h; cases h
  have e1 := (esum_u (nr := nr) (A := A) (v := nr A ^^^ 1 <<< B) 9).2 hA
  have e2 := (esum_u (nr := uN' nr A (nr A ^^^ 1 <<< B)) (A := B) (v := uN' nr A (nr A ^^^ 1 <<< B) B ^^^ 1 <<< A) 9).2 hB
  rw [uN_n (Ne.symm hne)] at e2
  rw [popc_on hB h] at e1
  rw [popc_on hA h2] at e2
  unfold nrX
  rw [uN_n (Ne.symm hne)]
  omega
theorem esum_off {nr : Nat → Nat} {A B : Nat} (g : Gr nr) (hA : A < 9) (hB : B < 9) (hne : A ≠ B) (h : (nr A).testBit B = true) : esum (nrX nr A B) 9 + 2 = esum nr 9 := by
  have h2 : (nr B).testBit A = true := g.2.1 A B hA hB h
  have e1 := (esum_u (nr := nr) (A := A) (v := nr A ^^^ 1 <<< B) 9).2 hA
  have e2 := (esum_u (nr := uN' nr A (nr A ^^^ 1 <<< B)) (A := B) (v := uN' nr A (nr A ^^^ 1 <<< B) B ^^^ 1 <<< A) 9).2 hB
  rw [uN_n (Ne.symm hne)] at e2
  have p1 := popc_off hB h
  have p2 := popc_off hA h2
  unfold nrX
  rw [uN_n (Ne.symm hne)]
  omega
/-- what holds of a story behind k acts -/
def TV (τ : TT) (k : Nat) : Prop :=
  TI τ.1 τ.2.2.1 τ.2.2.2.1 τ.2.2.2.2.1 k ∧ 2 * τ.2.1 = esum τ.2.2.1 9 ∧ (∃ po pcs, Lab τ.1 τ.2.2.1 po pcs ∧ τ.2.2.2.2.2.length + popc pcs 9 ≤ k) ∧ ∀ x ∈ τ.2.2.2.2.2, 1 ≤ x.1 ∧ x.1 ≤ k ∧ 1 ≤ x.2 ∧ x.2 ≤ k
/-- an act's number is right -/
def AV (ac : Nat) : Prop := ac < 1024 ∧ ac >>> 4 &&& 15 < 9 ∧ ac &&& 15 < 9 ∧ (ac >>> 8 < 2 → ac &&& 15 = ac >>> 4 &&& 15)
theorem AV_k {ac : Nat} (h : AV ac) : ac >>> 8 < 4 := by
  have := h.1
  rw [Nat.shiftRight_eq_div_pow]
  omega
theorem mxS_pos {oth : Nat} {r : Nat → Nat} : ∀ i, 0 < mxS oth r i → ∃ q, q < i ∧ oth.testBit q = true ∧ r q = mxS oth r i
  | 0, h => absurd h (Nat.lt_irrefl 0)
  | i + 1, h => by
    unfold mxS at h ⊢
    by_cases e : oth.testBit i = true
    · rw [if_pos e] at h ⊢
      rcases Nat.le_total (mxS oth r i) (r i) with z | z
      · exact ⟨i, by omega, e, by rw [Nat.max_eq_right z]⟩
      · rw [Nat.max_eq_left z] at h ⊢
        obtain ⟨q, a, b, c⟩ := mxS_pos i h
        exact ⟨q, by omega, b, c⟩
    · rw [if_neg e] at h ⊢
      obtain ⟨q, a, b, c⟩ := mxS_pos i h
      exact ⟨q, by omega, b, c⟩
theorem mxS_b {oth m : Nat} {r : Nat → Nat} (h : ∀ q, q < 9 → r q ≤ m) : mxS oth r 9 ≤ m := mxS_le h 9 (Nat.le_refl 9)
theorem pw_congr {c c' : Nat → Bool} {v g : Nat → Nat} (h : ∀ q, q < 9 → c q = c' q) : pw 9 c v g = pw 9 c' v g := by
  funext q
  unfold pw
  by_cases e : q < 9
  · rw [h q e]
  · rw [if_neg (fun z => e z.1), if_neg (fun z => e z.1)]
theorem sj_congr {met J : Nat} {wf ws wf' ws' : Nat → Nat} {sc : Nat → Nat → Nat} (h : ∀ q, q < 9 → wf q = wf' q ∧ ws q = ws' q) : sj met J wf ws sc 9 = sj met J wf' ws' sc 9 := by
  funext x y
  unfold sj
  by_cases ex : x < 9
  · rw [(h x ex).1, (h x ex).2]
    by_cases ey : y < 9
    · rw [(h y ey).1, (h y ey).2]
    · have n1 : ∀ (P Q : Prop), ¬ (P ∧ Q ∧ x < 9 ∧ y < 9) := fun P Q z => ey z.2.2.2
      have n2 : ∀ (P Q : Prop), ¬ (P ∧ Q ∧ y < 9 ∧ x < 9) := fun P Q z => ey z.2.2.1
      have n3 : ∀ (P : Prop), ¬ (P ∧ y < 9) := fun P z => ey z.2
      rw [if_neg (n3 (J.testBit x = true)), if_neg (n3 (J.testBit x = true))]
      rw [if_neg (n1 _ _), if_neg (n1 _ _), if_neg (n2 _ _), if_neg (n2 _ _)]
  · have n3 : ∀ (P : Prop), ¬ (P ∧ x < 9) := fun P z => ex z.2
    have n1 : ∀ (P Q : Prop), ¬ (P ∧ Q ∧ x < 9 ∧ y < 9) := fun P Q z => ex z.2.2.1
    have n2 : ∀ (P Q : Prop), ¬ (P ∧ Q ∧ y < 9 ∧ x < 9) := fun P Q z => ex z.2.2.2
    rw [if_neg (n3 (J.testBit y = true)), if_neg (n3 (J.testBit y = true))]
    by_cases ey : y < 9
    · rw [(h y ey).1, (h y ey).2]
      rw [if_neg (n1 _ _), if_neg (n1 _ _), if_neg (n2 _ _), if_neg (n2 _ _)]
    · rw [if_neg (fun z : _ ∧ y < 9 => ey z.2), if_neg (fun z : _ ∧ y < 9 => ey z.2), if_neg (n1 _ _), if_neg (n1 _ _), if_neg (n2 _ _), if_neg (n2 _ _)]
/-- sj is scJ on the nine -/
theorem sj_scJ {sc : Nat → Nat → Nat} {A B J x y : Nat} (hx : x < 9) (hy : y < 9) : sj (sc A B) J (wv J (sc A)) (wv J (sc B)) sc 9 x y = scJ sc A B J x y := by
  unfold sj scJ fJ wv
  by_cases zx : J.testBit x = true
  · by_cases zy : J.testBit y = true
    · rw [if_pos (c := J.testBit y = true ∧ x < 9) ⟨zy, hx⟩]
      simp [zx, zy]
    · rw [if_neg (c := J.testBit y = true ∧ x < 9) (fun z => zy z.1), if_pos (c := J.testBit x = true ∧ y < 9) ⟨zx, hy⟩]
      simp [zx, zy]
  · by_cases zy : J.testBit y = true
    · rw [if_pos (c := J.testBit y = true ∧ x < 9) ⟨zy, hx⟩]
      simp [zx, zy]
    · rw [if_neg (c := J.testBit y = true ∧ x < 9) (fun z => zy z.1), if_neg (c := J.testBit x = true ∧ y < 9) (fun z => zx z.1)]
      simp only [zx, zy, if_false, hx, hy, and_true, Bool.false_eq_true]
