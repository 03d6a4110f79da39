/-! Net: pieceOf, pieces, loops -/
theorem popc_ge {x p : Nat} : ∀ n, n ≤ p → popc (x ||| 1 <<< p) n = popc x n
  | 0, _ => rfl
  | n + 1, h => by
    unfold popc
    rw [popc_ge n (by omega), Nat.testBit_or, sh_bit]
    have e : decide (n = p) = false := decide_eq_false (by omega)
    rw [e, Bool.or_false]
theorem popc_or {x p : Nat} (hx : x.testBit p = false) : ∀ n, p < n → popc (x ||| 1 <<< p) n = popc x n + 1
  | 0, h => absurd h (Nat.not_lt_zero p)
  | n + 1, h => by
    unfold popc
    rw [Nat.testBit_or, sh_bit]
    by_cases e : n = p
    · subst e
      rw [popc_ge n (Nat.le_refl n), hx, decide_eq_true rfl]
      simp
    · rw [popc_or hx n (by omega), decide_eq_false e, Bool.or_false]
      omega
theorem popc_le (x : Nat) : ∀ n, popc x n ≤ n
  | 0 => Nat.le_refl 0
  | n + 1 => by
    unfold popc
    have := popc_le x n
    split <;> omega
theorem popc_full {x : Nat} : ∀ n, popc x n = n → ∀ i, i < n → x.testBit i = true
  | 0, _, i, hi => absurd hi (Nat.not_lt_zero i)
  | n + 1, h, i, hi => by
    unfold popc at h
    have h1 := popc_le x n
    by_cases q : x.testBit n = true
    · rw [if_pos q] at h
      by_cases e : i = n
      · rw [e]; exact q
      · exact popc_full n (by omega) i (by omega)
    · rw [if_neg q] at h
      omega
/-- a set that holds a point, is closed under edges, and lies in each such set -/
def IsR (nr : Nat → Nat) (p R : Nat) : Prop := R < 512 ∧ R.testBit p = true ∧ ClR nr R ∧ ∀ S, S.testBit p = true → ClR nr S → ∀ t, R.testBit t = true → S.testBit t = true
theorem low_bit {x : Nat} (hx : x < 512) (h0 : x ≠ 0) : x.testBit (low9 x) = true ∧ low9 x < 9 ∧ ∀ j, j < low9 x → x.testBit j = false := by
  obtain ⟨h1, h2, h3⟩ := low9_ok ⟨x, hx⟩ h0
  exact ⟨h1, h2, fun j hj => h3 ⟨j, Nat.lt_trans hj h2⟩ hj⟩
theorem bits0 {x : Nat} (h : ∀ t, x.testBit t = false) : x = 0 := Nat.eq_of_testBit_eq fun t => by rw [h t, Nat.zero_testBit]
def pInv (nr : Nat → Nat) (p0 i piece ahead : Nat) : Prop := piece < 512 ∧ ahead < 512 ∧ popc piece 9 = i ∧ (∀ t, piece.testBit t = true → ahead.testBit t = false) ∧ (piece.testBit p0 = true ∨ ahead.testBit p0 = true) ∧ (∀ S, S.testBit p0 = true → ClR nr S → ∀ t, (piece.testBit t = true ∨ ahead.testBit t = true) → S.testBit t = true) ∧ ∀ p, p < 9 → piece.testBit p = true → ∀ t, (nr p).testBit t = true → piece.testBit t = true ∨ ahead.testBit t = true
theorem pInv_end {nr : Nat → Nat} {p0 i piece : Nat} (h : pInv nr p0 i piece 0) : IsR nr p0 piece := by
  obtain ⟨h1, h2, h3, h4, h5, h6, h7⟩ := h
  have z : ∀ t, ¬ (0 : Nat).testBit t = true := fun t => by rw [Nat.zero_testBit]; decide
  exact ⟨h1, h5.elim id (fun q => absurd q (z _)), fun p hp q t ht => (h7 p hp q t ht).elim id (fun q => absurd q (z _)), fun S a1 a2 t ht => h6 S a1 a2 t (Or.inl ht)⟩
theorem pInv_9 {nr : Nat → Nat} {p0 piece ahead : Nat} (h : pInv nr p0 9 piece ahead) : ahead = 0 := by
  obtain ⟨h1, h2, h3, h4, -⟩ := h
  apply bits0
  intro t
  rcases Nat.lt_or_ge t 9 with q | q
  · exact h4 t (popc_full 9 h3 t q)
  · exact bit_lt (n := 9) h2 q
theorem pInv_s {nr : Nat → Nat} {p0 i piece ahead l : Nat} (hnr : ∀ p, p < 9 → nr p < 512) (h : pInv nr p0 i piece ahead) (hl : ahead.testBit l = true) (hl9 : l < 9) : pInv nr p0 (i + 1) (piece ||| 1 <<< l) (nd (ahead ||| nr l) (piece ||| 1 <<< l)) := by
  obtain ⟨h1, h2, h3, h4, h5, h6, h7⟩ := h
  have hpl : piece.testBit l = false := by
    cases q : piece.testBit l
    · rfl
    · rw [h4 l q] at hl; cases hl
  have bp : ∀ t, (piece ||| 1 <<< l).testBit t = true ↔ piece.testBit t = true ∨ t = l := fun t => by
    rw [Nat.testBit_or, sh_bit, Bool.or_eq_true, decide_eq_true_eq]
  have ba : ∀ t, (nd (ahead ||| nr l) (piece ||| 1 <<< l)).testBit t = true ↔ (ahead.testBit t = true ∨ (nr l).testBit t = true) ∧ ¬ (piece.testBit t = true ∨ t = l) := fun t => by
    rw [nd_bit, Bool.and_eq_true, Nat.testBit_or, Bool.or_eq_true, ← bp]
    cases (piece ||| 1 <<< l).testBit t <;> simp
  have un : ∀ t, ((piece ||| 1 <<< l).testBit t = true ∨ (nd (ahead ||| nr l) (piece ||| 1 <<< l)).testBit t = true) ↔ (piece.testBit t = true ∨ t = l ∨ ahead.testBit t = true ∨ (nr l).testBit t = true) := fun t => by
    rw [ba, bp]
    constructor
    · rintro ((q | q) | ⟨q | q, -⟩)
      · exact Or.inl q
      · exact Or.inr (Or.inl q)
      · exact Or.inr (Or.inr (Or.inl q))
      · exact Or.inr (Or.inr (Or.inr q))
    · intro q
      by_cases e : piece.testBit t = true ∨ t = l
      · exact Or.inl e
      · refine Or.inr ⟨?_, e⟩
        rcases q with q | q | q | q
        · exact absurd (Or.inl q) e
        · exact absurd (Or.inr q) e
        · exact Or.inl q
        · exact Or.inr q
  refine ⟨or_lt (n := 9) h1 (sh_lt hl9), nd_lt (n := 9) (or_lt h2 (hnr l hl9)), by rw [popc_or hpl 9 hl9, h3], ?_, ?_, ?_, ?_⟩
  · intro t q
    cases e : (nd (ahead ||| nr l) (piece ||| 1 <<< l)).testBit t
    · rfl
    · exact absurd ((bp t).mp q) ((ba t).mp e).2
  · rw [un]
    rcases h5 with q | q
    · exact Or.inl q
    · exact Or.inr (Or.inr (Or.inl q))
  · intro S a1 a2 t q
    rw [un] at q
    have hSl : S.testBit l = true := h6 S a1 a2 l (Or.inr hl)
    rcases q with q | q | q | q
    · exact h6 S a1 a2 t (Or.inl q)
    · rw [q]; exact hSl
    · exact h6 S a1 a2 t (Or.inr q)
    · exact a2 l hl9 hSl t q
  · intro p hp q t ht
    rw [un]
    rcases (bp p).mp q with q | q
    · rcases h7 p hp q t ht with r | r
      · exact Or.inl r
      · exact Or.inr (Or.inr (Or.inl r))
    · subst q
      exact Or.inr (Or.inr (Or.inr ht))
theorem l_Net_pieceOf {d b : Nat} {pre suf : mH} {pts : Nat} {edg : Nat} {nr : Nat → Nat} {Q : Option Value → mH → Prop} (hb : pre.length = b) {p0 : Nat} (hp0 : p0 < 9) (hnr : ∀ p, p < 9 → nr p < 512) (hQ : ∀ R, IsR nr p0 R → Q (some (.int (nI R))) (nW b pre pts edg nr suf)) : ∀ (n i piece ahead : Nat) (pv : Value), i + n = 9 → pInv nr p0 i piece ahead → WP (Rn mprog (d + 3)) k_Net_pieceOf (some .int) Q 19 [.ref b, .int (nI p0), .int (nI piece), .int (nI ahead), .int (nI i), pv] [] (nW b pre pts edg nr suf) := by
  intro n
  induction n with
  | zero =>
    intro i piece ahead pv hi hI
    have e : i = 9 := by omega
    subst e
    have ha := pInv_9 hI
    subst ha
    refine wq_iload rfl rfl ?_
    refine wq_bipush (v := nI 9) rfl (by decide) ?_
    refine wq_ic_ge rfl (fun _ => ?_) (fun c => absurd c (by decide))
    refine wq_iload_n rfl rfl ?_
    refine wq_iret rfl trivial ?_
    exact hQ piece (pInv_end hI)
  | succ n ih =>
    intro i piece ahead pv hi hI
    have hb1 := hI.1
    have hb2 := hI.2.1
    refine wq_iload rfl rfl ?_
    refine wq_bipush (v := nI 9) rfl (by decide) ?_
    refine wn_ic_ge rfl (by omega) (by omega) (fun c23 => absurd c23 (by omega)) (fun c23 => ?_)
    refine wq_iload_n rfl rfl ?_
    refine wn_if_eq rfl (by omega) (fun c27 => ?_) (fun c27 => ?_)
    · skip
      refine wq_iload_n rfl rfl ?_
      refine wq_iret rfl trivial ?_
      subst c27
      exact hQ piece (pInv_end hI)
    · skip
      refine wq_iload_n rfl rfl ?_
      refine wq_stat (a := [.int (nI ahead)]) (rest := []) rfl rfl rfl rfl rfl ?_
      obtain ⟨g1, g2, -⟩ := low_bit hb2 c27
      have g3 := Nat.lt_trans (sh_lt (n := 9) g2) (show 2 ^ 9 < 2 ^ 32 by decide)
      refine r_Z_lowestOf (by omega) c27 ?_
      show WP _ _ _ _ 34 [.ref b, .int (nI p0), .int (nI piece), .int (nI ahead), .int (nI i), pv] [.int (nI (low9 ahead))] (nW b pre pts edg nr suf)
      refine wq_istore (lv' := [.ref b, .int (nI p0), .int (nI piece), .int (nI ahead), .int (nI i), .int (nI (low9 ahead))]) rfl rfl rfl ?_
      refine wq_iload_n rfl rfl ?_
      refine wq_iconst (v := nI 1) rfl (by decide) ?_
      refine wq_iload rfl rfl ?_
      refine wn_ishl rfl (by omega) g3 ?_
      refine wn_ior rfl ?_
      refine wq_istore_n (lv' := [.ref b, .int (nI p0), .int (nI (piece ||| (1 <<< (low9 ahead)))), .int (nI ahead), .int (nI i), .int (nI (low9 ahead))]) rfl rfl rfl ?_
      refine wq_iload_n rfl rfl ?_
      refine wq_aload_n rfl rfl ?_
      refine wq_iload rfl rfl ?_
      refine wq_virt (b := b) (a := [.int (nI (low9 ahead))]) (rest := [.int (nI ahead)]) rfl rfl rfl rfl rfl (nW_o0 hb) ?_
      refine r_Net_nearOf hb (by omega) ?_
      show WP _ _ _ _ 50 [.ref b, .int (nI p0), .int (nI (piece ||| (1 <<< (low9 ahead)))), .int (nI ahead), .int (nI i), .int (nI (low9 ahead))] [.int (nI (nr (low9 ahead))), .int (nI ahead)] (nW b pre pts edg nr suf)
      refine wn_ior rfl ?_
      refine wq_iload_n rfl rfl ?_
      refine wq_iconst (v := (-1)) rfl (by decide) ?_
      refine wq_ixor (v := (nI (piece ||| (1 <<< (low9 ahead))) ^^^ (-1))) rfl rfl ?_
      refine wn_andn rfl ?_
      refine wq_istore_n (lv' := [.ref b, .int (nI p0), .int (nI (piece ||| (1 <<< (low9 ahead)))), .int (nI (nd (ahead ||| (nr (low9 ahead))) (piece ||| (1 <<< (low9 ahead))))), .int (nI i), .int (nI (low9 ahead))]) rfl rfl rfl ?_
      refine wn_inc (lv' := [.ref b, .int (nI p0), .int (nI (piece ||| (1 <<< (low9 ahead)))), .int (nI (nd (ahead ||| (nr (low9 ahead))) (piece ||| (1 <<< (low9 ahead))))), .int (nI (i + 1)), .int (nI (low9 ahead))]) rfl rfl rfl ?_
      refine wq_goto rfl ?_
      exact ih (i + 1) _ _ _ (by omega) (pInv_s hnr hI g1 g2)
theorem r_Net_pieceOf {d b : Nat} {pre suf : mH} {pts : Nat} {edg : Nat} {nr : Nat → Nat} {Q : Option Value → mH → Prop} (hb : pre.length = b) {p0 : Nat} (hp0 : p0 < 9) (hnr : ∀ p, p < 9 → nr p < 512) (hQ : ∀ R, IsR nr p0 R → Q (some (.int (nI R))) (nW b pre pts edg nr suf)) (hpt : pts < 512) (hin : pts.testBit p0 = true) : Rn mprog (d + 4) n_Net_pieceOf [.ref b, .int (nI p0)] (nW b pre pts edg nr suf) Q := by
  refine Rn.in rfl rfl rfl ?_
  show WP _ _ _ _ 0 [.ref b, .int (nI p0), .long 0, .long 0, .long 0, .long 0] [] (nW b pre pts edg nr suf)
  refine wq_aload_n rfl rfl ?_
  refine wq_iload_n rfl rfl ?_
  refine wq_virt (b := b) (a := [.int (nI p0)]) (rest := []) rfl rfl rfl rfl rfl (nW_o0 hb) ?_
  refine r_Net_has hb (by omega) (by omega) (fun c2 => ?_) (fun c2 => absurd c2 (by rw [hin]; decide))
  show WP _ _ _ _ 5 [.ref b, .int (nI p0), .long 0, .long 0, .long 0, .long 0] [.int (nI 1)] (nW b pre pts edg nr suf)
  refine wq_if_ne rfl (fun _ => ?_) (fun c => absurd c (by decide))
  refine wq_iconst (v := nI 0) rfl (by decide) ?_
  refine wq_istore_n (lv' := [.ref b, .int (nI p0), .int (nI 0), .long 0, .long 0, .long 0]) rfl rfl rfl ?_
  refine wq_iconst (v := nI 1) rfl (by decide) ?_
  refine wq_iload_n rfl rfl ?_
  refine wn_ishl rfl (by omega) (Nat.lt_trans (sh_lt (n := 9) hp0) (by decide)) ?_
  refine wq_istore_n (lv' := [.ref b, .int (nI p0), .int (nI 0), .int (nI (1 <<< p0)), .long 0, .long 0]) rfl rfl rfl ?_
  refine wq_iconst (v := nI 0) rfl (by decide) ?_
  refine wq_istore (lv' := [.ref b, .int (nI p0), .int (nI 0), .int (nI (1 <<< p0)), .int (nI 0), .long 0]) rfl rfl rfl ?_
  have hs9 := sh_lt (n := 9) hp0
  refine l_Net_pieceOf hb hp0 hnr hQ 9 0 0 (1 <<< p0) (.long 0) rfl ⟨by decide, hs9, by decide, ?_, Or.inr (by simp [sh_bit]), ?_, ?_⟩
  · intro t q
    rw [Nat.zero_testBit] at q
    cases q
  · intro S a1 a2 t q
    rcases q with q | q
    · rw [Nat.zero_testBit] at q
      cases q
    · rw [sh_bit, decide_eq_true_eq] at q
      rw [q]
      exact a1
  · intro p hp q
    rw [Nat.zero_testBit] at q
    cases q
