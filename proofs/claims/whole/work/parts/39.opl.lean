/-! how many bars are open -/
theorem opL_congr {nr nr' rt rt' : Nat → Nat} {sc sc' : Nat → Nat → Nat} (h3 : ∀ p, p < 9 → nr p = nr' p) (h4 : ∀ p, p < 9 → rt p = rt' p) (h5 : ∀ p q, p < 9 → q < 9 → sc p q = sc' p q) : ∀ m i left, i + m ≤ 9 → opL nr rt sc m i left = opL nr' rt' sc' m i left
  | 0, _, _, _ => rfl
  | m + 1, i, left, hi => by
    unfold opL
    rw [pOf_congr h3 i, opL_congr h3 h4 h5 m (i + 1) left (by omega), opL_congr h3 h4 h5 m (i + 1) (nd left (pOf nr' i)) (by omega), mxS_congr (fun q hq => h5 i q (by omega) hq) 9 (Nat.le_refl 9), h4 i (by omega)]
theorem opL_len {pts pcs : Nat} {nr po rt : Nat → Nat} {sc : Nat → Nat → Nat} (g : Gr nr) (hL : Lab pts nr po pcs) : ∀ m i left L, i + m = 9 → L < 512 → (∀ t, left.testBit t = true → pts.testBit t = true ∧ t < 9 ∧ L.testBit (po t) = true) → (opL nr rt sc m i left).length ≤ popc L 9
  | 0, _, _, _, _, _, _ => Nat.zero_le _
  | m + 1, i, left, L, hi, hL9, hl => by
    unfold opL
    by_cases e : left.testBit i = true
    · rw [if_pos e, List.length_cons]
      obtain ⟨pi, i9, Li⟩ := hl i e
      have hp := popc_nd (hL.2.1 i i9) Li
      have ih := opL_len (rt := rt) (sc := sc) g hL m (i + 1) (nd left (pOf nr i)) (nd L (1 <<< po i)) (by omega) (nd_lt (n := 9) hL9) (fun t ht => by
        rw [nd_bit, Bool.and_eq_true] at ht
        obtain ⟨h1, h2⟩ := ht
        obtain ⟨pt, t9, Lt⟩ := hl t h1
        refine ⟨pt, t9, ?_⟩
        rw [nd_bit, sh_bit, Bool.and_eq_true]
        refine ⟨Lt, ?_⟩
        have hne : po t ≠ po i := fun z => by
          have c1 := (hL.2.2.2.2 i t i9 t9 pi pt).mp z.symm
          rw [(pOf_bit g i9).mpr c1] at h2
          cases h2
        rw [decide_eq_false hne]
        rfl)
      omega
    · rw [if_neg e]
      exact opL_len g hL m (i + 1) left L (by omega) hL9 hl
/-- the open bars of a story -/
noncomputable def opT (τ : TT) : List (Nat × Nat) := opL τ.2.2.1 τ.2.2.2.1 τ.2.2.2.2.1 9 0 τ.1
theorem opT_congr {τ υ : TT} (h : EqT τ υ) : opT τ = opT υ := by
  unfold opT
  rw [h.1]
  exact opL_congr h.2.2.1 h.2.2.2.1 h.2.2.2.2.1 9 0 _ (Nat.le_refl 9)
theorem opT_len {τ : TT} {k : Nat} (h : TV τ k) : τ.2.2.2.2.2.length + (opT τ).length ≤ k := by
  obtain ⟨hT, -, ⟨po, pcs, hL, hc⟩, -⟩ := h
  have := opL_len (rt := τ.2.2.2.1) (sc := τ.2.2.2.2.1) hT.2.1 hL 9 0 τ.1 pcs rfl hL.1 (fun t ht => ⟨ht, lt9 hT.1 ht, hL.2.2.1 t (lt9 hT.1 ht) ht⟩)
  unfold opT
  omega
/-- all bars of the first acts of a row, the last one first -/
noncomputable def bsR (ra : Nat → Nat) (k : Nat) : List (Nat × Nat) := srt ((stR ra k).2.2.2.2.2 ++ opT (stR ra k))
theorem srt_app (a b : List (Nat × Nat)) : srt (a ++ b) = b.foldl (fun l x => insR x l) (srt a) := by
  unfold srt
  rw [List.foldl_append]
