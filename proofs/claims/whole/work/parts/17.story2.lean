/-! the reference's story: reach, comes, parts -/
def ClR (be : Nat → Nat) (S : Nat) : Prop := ∀ p, p < 9 → S.testBit p = true → ∀ t, (be p).testBit t = true → S.testBit t = true
def unR (be : Nat → Nat) (was s : Nat) : Nat → Nat
  | 0 => s
  | i + 1 => unR be was s i ||| (if was.testBit i = true then be i else 0)
theorem unR_bit {be : Nat → Nat} {was s t : Nat} : ∀ n, (unR be was s n).testBit t = true ↔ s.testBit t = true ∨ ∃ p, p < n ∧ was.testBit p = true ∧ (be p).testBit t = true
  | 0 => ⟨Or.inl, fun q => q.elim id (fun ⟨p, h, _⟩ => absurd h (Nat.not_lt_zero p))⟩
  | i + 1 => by
    have ih := unR_bit (be := be) (was := was) (s := s) (t := t) i
    unfold unR
    rw [Nat.testBit_or, Bool.or_eq_true, ih]
    constructor
    · rintro ((h | ⟨p, h1, h2, h3⟩) | h)
      · exact Or.inl h
      · exact Or.inr ⟨p, by omega, h2, h3⟩
      · split at h
        next q => exact Or.inr ⟨i, by omega, q, h⟩
        next => simp at h
    · rintro (h | ⟨p, h1, h2, h3⟩)
      · exact Or.inl (Or.inl h)
      · by_cases e : p = i
        · subst e
          rw [if_pos h2]
          exact Or.inr h3
        · exact Or.inl (Or.inr ⟨p, by omega, h2, h3⟩)
theorem unR_lt {be : Nat → Nat} {was s : Nat} (hs : s < 512) (hbe : ∀ p, p < 9 → be p < 512) : ∀ n, n ≤ 9 → unR be was s n < 512
  | 0, _ => hs
  | i + 1, hi => by
    unfold unR
    refine or_lt (n := 9) (unR_lt hs hbe i (by omega)) ?_
    split
    · exact hbe i (by omega)
    · decide
theorem bits_eq {a b : Nat} (h : ∀ t, a.testBit t = true ↔ b.testBit t = true) : a = b := Nat.eq_of_testBit_eq fun t => by
  cases h1 : a.testBit t <;> cases h2 : b.testBit t
  · rfl
  · exact absurd ((h t).mpr h2) (by rw [h1]; decide)
  · exact absurd ((h t).mp h1) (by rw [h2]; decide)
  · rfl
theorem bits_le {a b : Nat} (h : ∀ t, a.testBit t = true → b.testBit t = true) : a ≤ b := by
  have e : a &&& b = a := bits_eq fun t => by
    rw [Nat.testBit_and, Bool.and_eq_true]
    exact ⟨fun q => q.1, fun q => ⟨q, h t q⟩⟩
  rw [← e]
  exact Nat.and_le_right
theorem l_S_reachI {d b : Nat} {pre : mH} {F : Nat → Nat} {G : Nat → Nat → Nat} {th pcs brs : Nat} {be po ro bg en : Nat → Nat} {kf : Nat → Nat → Nat} {Q : Option Value → mH → Prop} (hb : pre.length = b) {a was st0 : Nat} (hw : was < 512) (hs0 : st0 < 512) (hbe : ∀ p, p < 9 → be p < 512) (k : WP (Rn mprog (d + 1)) k_M_reach (some .int) Q 6 [.ref b, .int (nI a), .int (nI (unR be was st0 9)), .int (nI was), .int (nI 9)] [] (mS b pre F G th pcs brs be po ro kf bg en)) : ∀ (n i : Nat), i + n = 9 → WP (Rn mprog (d + 1)) k_M_reach (some .int) Q 16 [.ref b, .int (nI a), .int (nI (unR be was st0 i)), .int (nI was), .int (nI i)] [] (mS b pre F G th pcs brs be po ro kf bg en) := by
  intro n
  induction n with
  | zero =>
    intro i h1
    have hi : i = 9 := by omega
    subst hi
    refine wq_iload rfl rfl ?_
    refine wq_bipush (v := nI 9) rfl (by decide) ?_
    refine wq_ic_ge rfl (fun _ => ?_) (fun c => absurd c (by decide))
    refine wq_goto rfl ?_
    exact k
  | succ n ih =>
    intro i h1
    have hbi := hbe i (by omega)
    have hu := unR_lt (be := be) (was := was) hs0 hbe i (by omega)
    refine wq_iload rfl rfl ?_
    refine wq_bipush (v := nI 9) rfl (by decide) ?_
    refine wn_ic_ge rfl (by omega) (by omega) (fun c20 => absurd c20 (by omega)) (fun c20 => ?_)
    refine wq_iload_n rfl rfl ?_
    refine wq_iload_n rfl rfl ?_
    refine wq_iload rfl rfl ?_
    refine wq_stat (a := [.int (nI was), .int (nI i)]) (rest := [.int (nI (unR be was st0 i))]) rfl rfl rfl rfl rfl ?_
    refine r_M_has (by omega) (by omega) (fun c27 => ?_) (fun c27 => ?_)
    · skip
      show WP _ _ _ _ 30 [.ref b, .int (nI a), .int (nI (unR be was st0 i)), .int (nI was), .int (nI i)] [.int (nI 1), .int (nI (unR be was st0 i))] (mS b pre F G th pcs brs be po ro kf bg en)
      refine wq_if_eq rfl (fun c => absurd c (by decide)) (fun _ => ?_)
      refine wq_aload_n rfl rfl ?_
      refine wq_getfield (v := .ref (b + 5)) rfl (mS_o hb) rfl ?_
      refine wq_iload rfl rfl ?_
      refine wn_iaload (g := be) rfl (mS_a9 hb) (by omega) (by decide) ?_
      refine wq_goto rfl ?_
      refine wn_ior rfl ?_
      refine wq_istore_n (lv' := [.ref b, .int (nI a), .int (nI ((unR be was st0 i) ||| (be i))), .int (nI was), .int (nI i)]) rfl rfl rfl ?_
      refine wn_inc (lv' := [.ref b, .int (nI a), .int (nI ((unR be was st0 i) ||| (be i))), .int (nI was), .int (nI (i + 1))]) rfl rfl rfl ?_
      refine wq_goto rfl ?_
      have e : (unR be was st0 i) ||| (be i) = unR be was st0 (i + 1) := by
        show _ = unR be was st0 i ||| (if was.testBit i = true then be i else 0)
        rw [c27]
        rfl
      rw [e]
      exact ih (i + 1) (by omega)
    · skip
      show WP _ _ _ _ 30 [.ref b, .int (nI a), .int (nI (unR be was st0 i)), .int (nI was), .int (nI i)] [.int (nI 0), .int (nI (unR be was st0 i))] (mS b pre F G th pcs brs be po ro kf bg en)
      refine wq_if_eq rfl (fun _ => ?_) (fun c => absurd c (by decide))
      refine wq_iconst (v := nI 0) rfl (by decide) ?_
      refine wn_ior rfl ?_
      refine wq_istore_n (lv' := [.ref b, .int (nI a), .int (nI ((unR be was st0 i) ||| 0)), .int (nI was), .int (nI i)]) rfl rfl rfl ?_
      refine wn_inc (lv' := [.ref b, .int (nI a), .int (nI ((unR be was st0 i) ||| 0)), .int (nI was), .int (nI (i + 1))]) rfl rfl rfl ?_
      refine wq_goto rfl ?_
      have e : (unR be was st0 i) ||| 0 = unR be was st0 (i + 1) := by
        show _ = unR be was st0 i ||| (if was.testBit i = true then be i else 0)
        rw [c27]
        rfl
      rw [e]
      exact ih (i + 1) (by omega)
theorem l_S_reach {d b : Nat} {pre : mH} {F : Nat → Nat} {G : Nat → Nat → Nat} {th pcs brs : Nat} {be po ro bg en : Nat → Nat} {kf : Nat → Nat → Nat} {Q : Option Value → mH → Prop} (hb : pre.length = b) {a : Nat} (ha : a < 9) (hbe : ∀ p, p < 9 → be p < 512) (hQ : ∀ R, R < 512 → R.testBit a = true → ClR be R → (∀ S, S.testBit a = true → ClR be S → ∀ t, R.testBit t = true → S.testBit t = true) → Q (some (.int (nI R))) (mS b pre F G th pcs brs be po ro kf bg en)) : ∀ (n st0 was p0 : Nat), 2 * (512 - st0) + (if was = st0 then 0 else 1) < n → st0 < 512 → was < 512 → st0.testBit a = true → (∀ S, S.testBit a = true → ClR be S → ∀ t, st0.testBit t = true → S.testBit t = true) → (was = 0 ∨ st0 = unR be was was 9) → ∀ (pv : Value), pv.category = 1 ∨ pv = .long 0 → WP (Rn mprog (d + 1)) k_M_reach (some .int) Q 6 [.ref b, .int (nI a), .int (nI st0), .int (nI was), pv] [] (mS b pre F G th pcs brs be po ro kf bg en) := by
  intro n
  induction n with
  | zero => intro st0 was p0 h1; omega
  | succ n ih =>
    intro st0 was p0 hm hs0 hw hsa hmin hJ pv hpv
    refine wq_iload_n rfl rfl ?_
    refine wq_iload_n rfl rfl ?_
    refine wn_ic_eq rfl (by omega) (by omega) (fun c8 => ?_) (fun c8 => ?_)
    · refine wq_iload_n rfl rfl ?_
      refine wq_iret rfl trivial ?_
      refine hQ st0 hs0 hsa ?_ hmin
      rcases hJ with hJ | hJ
      · rw [← c8, hJ] at hsa
        simp at hsa
      · intro p hp h1 t h2
        rw [hJ, unR_bit]
        exact Or.inr ⟨p, hp, by rw [c8]; exact h1, h2⟩
    · refine wq_iload_n rfl rfl ?_
      refine wq_istore_n (lv' := [.ref b, .int (nI a), .int (nI st0), .int (nI st0), pv]) rfl rfl rfl ?_
      refine wq_iconst (v := nI 0) rfl (by decide) ?_
      refine wq_istore (lv' := [.ref b, .int (nI a), .int (nI st0), .int (nI st0), .int (nI 0)]) rfl rfl rfl ?_
      have hsup : ∀ t, st0.testBit t = true → (unR be st0 st0 9).testBit t = true := fun t q => (unR_bit 9).mpr (Or.inl q)
      have hle := bits_le hsup
      have hlt := unR_lt (be := be) (was := st0) hs0 hbe 9 (Nat.le_refl 9)
      refine l_S_reachI hb hs0 hs0 hbe ?_ 9 0 rfl
      refine ih (unR be st0 st0 9) st0 p0 ?_ hlt hs0 (hsup a hsa) ?_ (Or.inr rfl) _ (Or.inl rfl)
      · rw [if_neg c8] at hm
        split
        next => omega
        next q => omega
      · intro S h1 h2 t h3
        rcases (unR_bit 9).mp h3 with h4 | ⟨p, h4, h5, h6⟩
        · exact hmin S h1 h2 t h4
        · exact h2 p h4 (hmin S h1 h2 p h5) t h6
theorem r_S_reach {d b : Nat} {pre : mH} {F : Nat → Nat} {G : Nat → Nat → Nat} {th pcs brs : Nat} {be po ro bg en : Nat → Nat} {kf : Nat → Nat → Nat} {Q : Option Value → mH → Prop} (hb : pre.length = b) {a : Nat} (ha : a < 9) (hbe : ∀ p, p < 9 → be p < 512) (hQ : ∀ R, R < 512 → R.testBit a = true → ClR be R → (∀ S, S.testBit a = true → ClR be S → ∀ t, R.testBit t = true → S.testBit t = true) → Q (some (.int (nI R))) (mS b pre F G th pcs brs be po ro kf bg en)) : Rn mprog (d + 2) n_M_reach [.ref b, .int (nI a)] (mS b pre F G th pcs brs be po ro kf bg en) Q := by
  refine Rn.in rfl rfl rfl ?_
  show WP _ _ _ _ 0 [.ref b, .int (nI a), .long 0, .long 0, .long 0] [] (mS b pre F G th pcs brs be po ro kf bg en)
  refine wq_iconst (v := nI 1) rfl (by decide) ?_
  refine wq_iload_n rfl rfl ?_
  refine wn_ishl rfl (by omega) (Nat.lt_trans (sh_lt (n := 9) ha) (by decide)) ?_
  refine wq_istore_n (lv' := [.ref b, .int (nI a), .int (nI (1 <<< a)), .long 0, .long 0]) rfl rfl rfl ?_
  refine wq_iconst (v := nI 0) rfl (by decide) ?_
  refine wq_istore_n (lv' := [.ref b, .int (nI a), .int (nI (1 <<< a)), .int (nI 0), .long 0]) rfl rfl rfl ?_
  have hs9 := sh_lt (n := 9) ha
  have hsl := Nat.sub_le 512 (1 <<< a)
  refine l_S_reach hb ha hbe hQ 2000 (1 <<< a) 0 0 (by split <;> omega) hs9 (by decide) (by simp [sh_bit]) ?_ (Or.inl rfl) (.long 0) (Or.inr rfl)
  intro S h1 h2 t h3
  rw [sh_bit] at h3
  rw [of_decide_eq_true h3]
  exact h1
def kz (kf : Nat → Nat → Nat) (l i : Nat) : Nat → Nat → Nat := fun x y => if (x = l ∧ y < i) ∨ (y = l ∧ x < i) then 0 else kf x y
theorem kz_0 (kf : Nat → Nat → Nat) (l : Nat) : kz kf l 0 = kf := by
  funext x y
  unfold kz
  rw [if_neg (by omega)]
theorem kz_s (kf : Nat → Nat → Nat) (l i : Nat) : sK (kz kf l i) l i 0 = kz kf l (i + 1) := by
  funext x y
  unfold sK kz
  split <;> split <;> first | rfl | (split <;> first | rfl | omega) | omega
theorem l_S_comes {d b : Nat} {pre : mH} {F : Nat → Nat} {G : Nat → Nat → Nat} {th pcs brs : Nat} {be po ro bg en : Nat → Nat} {kf : Nat → Nat → Nat} {Q : Option Value → mH → Prop} (hb : pre.length = b) {a num l : Nat} (hl : l < 9) (hQ : Q none (mS b pre F G th pcs brs be po ro ((kz kf l 9)) bg en)) : ∀ (n i : Nat), i + n = 9 → WP (Rn mprog (d + 2)) k_M_comes none Q 53 [.ref b, .int (nI a), .int (nI num), .int (nI l), .int (nI i)] [] (mS b pre F G th pcs brs be po ro ((kz kf l i)) bg en) := by
  intro n
  induction n with
  | zero =>
    intro i h1
    have hi : i = 9 := by omega
    subst hi
    refine wq_iload rfl rfl ?_
    refine wq_bipush (v := nI 9) rfl (by decide) ?_
    refine wq_ic_ge rfl (fun _ => ?_) (fun c => absurd c (by decide))
    refine wq_vret rfl rfl ?_
    exact hQ
  | succ n ih =>
    intro i h1
    refine wq_iload rfl rfl ?_
    refine wq_bipush (v := nI 9) rfl (by decide) ?_
    refine wn_ic_ge rfl (by omega) (by omega) (fun c57 => absurd c57 (by omega)) (fun c57 => ?_)
    refine wq_aload_n rfl rfl ?_
    refine wq_iload_n rfl rfl ?_
    refine wq_iload rfl rfl ?_
    refine wq_iconst (v := nI 0) rfl (by decide) ?_
    refine wq_virt (b := b) (a := [.int (nI l), .int (nI i), .int (nI 0)]) (rest := []) rfl rfl rfl rfl rfl (mS_o hb) ?_
    refine r_S_makesKin hb (by omega) (by omega) ?_
    show WP _ _ _ _ 68 [.ref b, .int (nI a), .int (nI num), .int (nI l), .int (nI i)] [] (mS b pre F G th pcs brs be po ro (sK (kz kf l i) l i 0) bg en)
    refine wn_inc (lv' := [.ref b, .int (nI a), .int (nI num), .int (nI l), .int (nI (i + 1))]) rfl rfl rfl ?_
    refine wq_goto rfl ?_
    rw [kz_s]
    exact ih (i + 1) (by omega)
theorem r_S_comes {d b : Nat} {pre : mH} {F : Nat → Nat} {G : Nat → Nat → Nat} {th pcs brs : Nat} {be po ro bg en : Nat → Nat} {kf : Nat → Nat → Nat} {Q : Option Value → mH → Prop} (hb : pre.length = b) {a num : Nat} (ha : a < 9) (hth : th < 512) (hp : pcs < 512) (hfree : ∀ l, l ≤ 9 → pcs.testBit l = false → (∀ j, j < l → pcs.testBit j = true) → l < 9) (hQ : ∀ l, l < 9 → pcs.testBit l = false → Q none (mS b pre F G (th ||| 1 <<< a) (pcs ||| 1 <<< l) brs (uN' be a 0) (uN' po a l) (uN' ro l num) (kz kf l 9) bg en)) : Rn mprog (d + 3) n_M_comes [.ref b, .int (nI a), .int (nI num)] (mS b pre F G th pcs brs be po ro kf bg en) Q := by
  refine Rn.in rfl rfl rfl ?_
  show WP _ _ _ _ 0 [.ref b, .int (nI a), .int (nI num), .long 0, .long 0] [] (mS b pre F G th pcs brs be po ro kf bg en)
  refine wq_aload_n rfl rfl ?_
  refine wq_virt (b := b) (a := []) (rest := []) rfl rfl rfl rfl rfl (mS_o hb) ?_
  refine r_S_freePiece hb hp ?_
  intro l hl9 hlb hlj
  have hl : l < 9 := hfree l hl9 hlb hlj
  show WP _ _ _ _ 4 [.ref b, .int (nI a), .int (nI num), .long 0, .long 0] [.int (nI l)] (mS b pre F G th pcs brs be po ro kf bg en)
  refine wq_istore_n (lv' := [.ref b, .int (nI a), .int (nI num), .int (nI l), .long 0]) rfl rfl rfl ?_
  refine wq_aload_n rfl rfl ?_
  refine wq_dup rfl rfl ?_
  refine wq_getfield (v := .int (nI th)) rfl (mS_o hb) rfl ?_
  refine wq_iconst (v := nI 1) rfl (by decide) ?_
  refine wq_iload_n rfl rfl ?_
  refine wn_ishl rfl (by omega) (Nat.lt_trans (sh_lt (n := 9) ha) (by decide)) ?_
  refine wn_ior rfl ?_
  refine wq_putfield (h' := mS b pre F G (th ||| (1 <<< a)) pcs brs be po ro kf bg en) rfl (mS_o hb) rfl (mS_s8 hb) ?_
  refine wq_aload_n rfl rfl ?_
  refine wq_getfield (v := .ref (b + 5)) rfl (mS_o hb) rfl ?_
  refine wq_iload_n rfl rfl ?_
  refine wq_iconst (v := nI 0) rfl (by decide) ?_
  refine wn_iastore (g := be) (h' := mS b pre F G (th ||| (1 <<< a)) pcs brs (uN' be a 0) po ro kf bg en) rfl (mS_a9 hb) (by omega) (by decide) (mS_t9 hb) ?_
  refine wq_aload_n rfl rfl ?_
  refine wq_getfield (v := .ref (b + 6)) rfl (mS_o hb) rfl ?_
  refine wq_iload_n rfl rfl ?_
  refine wq_iload_n rfl rfl ?_
  refine wn_iastore (g := po) (h' := mS b pre F G (th ||| (1 <<< a)) pcs brs (uN' be a 0) (uN' po a l) ro kf bg en) rfl (mS_a10 hb) (by omega) (by decide) (mS_t10 hb) ?_
  refine wq_aload_n rfl rfl ?_
  refine wq_dup rfl rfl ?_
  refine wq_getfield (v := .int (nI pcs)) rfl (mS_o hb) rfl ?_
  refine wq_iconst (v := nI 1) rfl (by decide) ?_
  refine wq_iload_n rfl rfl ?_
  refine wn_ishl rfl (by omega) (Nat.lt_trans (sh_lt (n := 9) hl) (by decide)) ?_
  refine wn_ior rfl ?_
  refine wq_putfield (h' := mS b pre F G (th ||| (1 <<< a)) (pcs ||| (1 <<< l)) brs (uN' be a 0) (uN' po a l) ro kf bg en) rfl (mS_o hb) rfl (mS_s11 hb) ?_
  refine wq_aload_n rfl rfl ?_
  refine wq_getfield (v := .ref (b + 7)) rfl (mS_o hb) rfl ?_
  refine wq_iload_n rfl rfl ?_
  refine wq_iload_n rfl rfl ?_
  refine wn_iastore (g := ro) (h' := mS b pre F G (th ||| (1 <<< a)) (pcs ||| (1 <<< l)) brs (uN' be a 0) (uN' po a l) (uN' ro l num) kf bg en) rfl (mS_a12 hb) (by omega) (by decide) (mS_t12 hb) ?_
  refine wq_iconst (v := nI 0) rfl (by decide) ?_
  refine wq_istore (lv' := [.ref b, .int (nI a), .int (nI num), .int (nI l), .int (nI 0)]) rfl rfl rfl ?_
  have q := l_S_comes (d := d) (kf := kf) (a := a) (num := num) hb hl (hQ l hl hlb) 9 0 rfl
  rw [kz_0] at q
  exact q
def pw (i : Nat) (c : Nat → Bool) (v g : Nat → Nat) : Nat → Nat := fun q => if q < i ∧ c q = true then v q else g q
theorem pw_0 (c : Nat → Bool) (v g : Nat → Nat) : pw 0 c v g = g := by
  funext q
  unfold pw
  rw [if_neg (by omega)]
theorem pw_at (i : Nat) (c : Nat → Bool) (v g : Nat → Nat) : pw i c v g i = g i := by
  unfold pw
  rw [if_neg (by omega)]
theorem pw_s {i x : Nat} {c : Nat → Bool} {v g : Nat → Nat} (hx : x = if c i = true then v i else g i) : uN' (pw i c v g) i x = pw (i + 1) c v g := by
  funext q
  unfold uN' pw
  by_cases h : q = i
  · subst h
    rw [if_pos rfl, hx]
    by_cases h2 : c q = true
    · rw [if_pos h2, if_pos ⟨by omega, h2⟩]
    · rw [if_neg h2, if_neg (fun z => h2 z.2)]
  · rw [if_neg h]
    by_cases h2 : c q = true
    · by_cases h3 : q < i
      · rw [if_pos ⟨h3, h2⟩, if_pos ⟨by omega, h2⟩]
      · rw [if_neg (fun z => h3 z.1), if_neg (fun z => h3 (by omega))]
    · rw [if_neg (fun z => h2 z.2), if_neg (fun z => h2 z.2)]
def kp (kf : Nat → Nat → Nat) (was l i : Nat) : Nat → Nat → Nat := fun x y => if x = l ∧ y < i then (if y = l then 0 else kf was y) else if y = l ∧ x < i then kf was x else kf x y
theorem kp_0 (kf : Nat → Nat → Nat) (was l : Nat) : kp kf was l 0 = kf := by
  funext x y
  unfold kp
  rw [if_neg (by omega), if_neg (by omega)]
theorem kp_at {kf : Nat → Nat → Nat} {was l i : Nat} (h1 : was ≠ l) (h2 : i ≠ l) : kp kf was l i was i = kf was i := by
  unfold kp
  rw [if_neg (fun q => h1 q.1), if_neg (fun q => h2 q.1)]
theorem kp_s {kf : Nat → Nat → Nat} {was l i v : Nat} (hv : v = if i = l then 0 else kf was i) : sK (kp kf was l i) l i v = kp kf was l (i + 1) := by
  funext x y
  unfold sK kp
  by_cases hx : x = l
  · by_cases hy : y = i
    · rw [if_pos (c := (x = l ∧ y = i) ∨ (x = i ∧ y = l)) (Or.inl ⟨hx, hy⟩), if_pos (c := x = l ∧ y < i + 1) ⟨hx, by omega⟩, hv, hy]
    · rw [if_neg (c := (x = l ∧ y = i) ∨ (x = i ∧ y = l)) (by omega)]
      by_cases h4 : y < i
      · rw [if_pos (c := x = l ∧ y < i) ⟨hx, h4⟩, if_pos (c := x = l ∧ y < i + 1) ⟨hx, by omega⟩]
      · rw [if_neg (c := x = l ∧ y < i) (by omega), if_neg (c := x = l ∧ y < i + 1) (by omega), if_neg (c := y = l ∧ x < i) (by omega), if_neg (c := y = l ∧ x < i + 1) (by omega)]
  · rw [if_neg (c := x = l ∧ y < i) (fun q => hx q.1), if_neg (c := x = l ∧ y < i + 1) (fun q => hx q.1)]
    by_cases hy : y = l
    · by_cases hxi : x = i
      · rw [if_pos (c := (x = l ∧ y = i) ∨ (x = i ∧ y = l)) (Or.inr ⟨hxi, hy⟩), if_pos (c := y = l ∧ x < i + 1) ⟨hy, by omega⟩, hv, hxi, if_neg (by omega)]
      · rw [if_neg (c := (x = l ∧ y = i) ∨ (x = i ∧ y = l)) (by omega)]
        by_cases h4 : x < i
        · rw [if_pos (c := y = l ∧ x < i) ⟨hy, h4⟩, if_pos (c := y = l ∧ x < i + 1) ⟨hy, by omega⟩]
        · rw [if_neg (c := y = l ∧ x < i) (by omega), if_neg (c := y = l ∧ x < i + 1) (by omega)]
    · rw [if_neg (c := (x = l ∧ y = i) ∨ (x = i ∧ y = l)) (by omega), if_neg (c := y = l ∧ x < i) (fun q => hy q.1), if_neg (c := y = l ∧ x < i + 1) (fun q => hy q.1)]
theorem l_S_parts1 {d b : Nat} {pre : mH} {F : Nat → Nat} {G : Nat → Nat → Nat} {th pcs brs : Nat} {be po ro bg en : Nat → Nat} {kf : Nat → Nat → Nat} {Q : Option Value → mH → Prop} (hb : pre.length = b) {a bb num R was l : Nat} (hl : l < 9) (hw : was < 9) (hlw : was ≠ l) (k : WP (Rn mprog (d + 2)) k_M_parts none Q 129 [.ref b, .int (nI a), .int (nI bb), .int (nI num), .int (nI R), .int (nI was), .int (nI l), .int (nI 9)] [] (mS b pre F G th pcs brs be po ro (kp kf was l 9) bg en)) : ∀ (n i : Nat), i + n = 9 → WP (Rn mprog (d + 2)) k_M_parts none Q 89 [.ref b, .int (nI a), .int (nI bb), .int (nI num), .int (nI R), .int (nI was), .int (nI l), .int (nI i)] [] (mS b pre F G th pcs brs be po ro (kp kf was l i) bg en) := by
  intro n
  induction n with
  | zero =>
    intro i h1
    have hi : i = 9 := by omega
    subst hi
    refine wq_iload rfl rfl ?_
    refine wq_bipush (v := nI 9) rfl (by decide) ?_
    refine wq_ic_ge rfl (fun _ => ?_) (fun c => absurd c (by decide))
    exact k
  | succ n ih =>
    intro i h1
    refine wq_iload rfl rfl ?_
    refine wq_bipush (v := nI 9) rfl (by decide) ?_
    refine wn_ic_ge rfl (by omega) (by omega) (fun c93 => absurd c93 (by omega)) (fun c93 => ?_)
    refine wq_aload_n rfl rfl ?_
    refine wq_iload rfl rfl ?_
    refine wq_iload rfl rfl ?_
    refine wq_iload rfl rfl ?_
    refine wq_iload rfl rfl ?_
    refine wn_ic_ne rfl (by omega) (by omega) (fun c105 => ?_) (fun c105 => ?_)
    · skip
      refine wq_aload_n rfl rfl ?_
      refine wq_iload rfl rfl ?_
      refine wq_iload rfl rfl ?_
      refine wq_virt (b := b) (a := [.int (nI was), .int (nI i)]) (rest := [.int (nI i), .int (nI l), .ref b]) rfl rfl rfl rfl rfl (mS_o hb) ?_
      refine r_S_kinOf hb (by omega) (by omega) ?_
      show WP _ _ _ _ 120 [.ref b, .int (nI a), .int (nI bb), .int (nI num), .int (nI R), .int (nI was), .int (nI l), .int (nI i)] [.int (nI (kp kf was l i was i)), .int (nI i), .int (nI l), .ref b] (mS b pre F G th pcs brs be po ro (kp kf was l i) bg en)
      refine wq_virt (b := b) (a := [.int (nI l), .int (nI i), .int (nI (kp kf was l i was i))]) (rest := []) rfl rfl rfl rfl rfl (mS_o hb) ?_
      refine r_S_makesKin hb (by omega) (by omega) ?_
      show WP _ _ _ _ 123 [.ref b, .int (nI a), .int (nI bb), .int (nI num), .int (nI R), .int (nI was), .int (nI l), .int (nI i)] [] (mS b pre F G th pcs brs be po ro (sK (kp kf was l i) l i (kp kf was l i was i)) bg en)
      refine wn_inc (lv' := [.ref b, .int (nI a), .int (nI bb), .int (nI num), .int (nI R), .int (nI was), .int (nI l), .int (nI (i + 1))]) rfl rfl rfl ?_
      refine wq_goto rfl ?_
      rw [kp_s (by rw [if_neg c105, kp_at hlw c105])]
      exact ih (i + 1) (by omega)
    · skip
      refine wq_iconst (v := nI 0) rfl (by decide) ?_
      refine wq_goto rfl ?_
      refine wq_virt (b := b) (a := [.int (nI l), .int (nI i), .int (nI 0)]) (rest := []) rfl rfl rfl rfl rfl (mS_o hb) ?_
      refine r_S_makesKin hb (by omega) (by omega) ?_
      show WP _ _ _ _ 123 [.ref b, .int (nI a), .int (nI bb), .int (nI num), .int (nI R), .int (nI was), .int (nI l), .int (nI i)] [] (mS b pre F G th pcs brs be po ro (sK (kp kf was l i) l i 0) bg en)
      refine wn_inc (lv' := [.ref b, .int (nI a), .int (nI bb), .int (nI num), .int (nI R), .int (nI was), .int (nI l), .int (nI (i + 1))]) rfl rfl rfl ?_
      refine wq_goto rfl ?_
      rw [kp_s (by rw [if_pos c105])]
      exact ih (i + 1) (by omega)
theorem l_S_parts1' {d b : Nat} {pre : mH} {F : Nat → Nat} {G : Nat → Nat → Nat} {th pcs brs : Nat} {be po ro bg en : Nat → Nat} {kf : Nat → Nat → Nat} {Q : Option Value → mH → Prop} (hb : pre.length = b) {a bb num R was l : Nat} (hl : l < 9) (hw : was < 9) (hlw : was ≠ l) (k : WP (Rn mprog (d + 2)) k_M_parts none Q 129 [.ref b, .int (nI a), .int (nI bb), .int (nI num), .int (nI R), .int (nI was), .int (nI l), .int (nI 9)] [] (mS b pre F G th pcs brs be po ro (kp kf was l 9) bg en)) : WP (Rn mprog (d + 2)) k_M_parts none Q 89 [.ref b, .int (nI a), .int (nI bb), .int (nI num), .int (nI R), .int (nI was), .int (nI l), .int (nI 0)] [] (mS b pre F G th pcs brs be po ro kf bg en) := by
  have q := l_S_parts1 (d := d) hb hl hw hlw k 9 0 rfl
  rw [kp_0] at q
  exact q
theorem l_S_parts2 {d b : Nat} {pre : mH} {F : Nat → Nat} {G : Nat → Nat → Nat} {th pcs brs : Nat} {be po ro bg en : Nat → Nat} {kf : Nat → Nat → Nat} {Q : Option Value → mH → Prop} (hb : pre.length = b) {a bb num R was l : Nat} (hl : l < 9) (hR : R < 512) (hQ : Q none (mS b pre F G th pcs brs be (pw 9 (fun q => R.testBit q) (fun _ => l) po) ro kf bg en)) : ∀ (n i : Nat), i + n = 9 → WP (Rn mprog (d + 2)) k_M_parts none Q 141 [.ref b, .int (nI a), .int (nI bb), .int (nI num), .int (nI R), .int (nI was), .int (nI l), .int (nI i)] [] (mS b pre F G th pcs brs be (pw i (fun q => R.testBit q) (fun _ => l) po) ro kf bg en) := by
  intro n
  induction n with
  | zero =>
    intro i h1
    have hi : i = 9 := by omega
    subst hi
    refine wq_iload rfl rfl ?_
    refine wq_bipush (v := nI 9) rfl (by decide) ?_
    refine wq_ic_ge rfl (fun _ => ?_) (fun c => absurd c (by decide))
    refine wq_vret rfl rfl ?_
    exact hQ
  | succ n ih =>
    intro i h1
    refine wq_iload rfl rfl ?_
    refine wq_bipush (v := nI 9) rfl (by decide) ?_
    refine wn_ic_ge rfl (by omega) (by omega) (fun c145 => absurd c145 (by omega)) (fun c145 => ?_)
    refine wq_aload_n rfl rfl ?_
    refine wq_getfield (v := .ref (b + 6)) rfl (mS_o hb) rfl ?_
    refine wq_iload rfl rfl ?_
    refine wq_iload rfl rfl ?_
    refine wq_iload rfl rfl ?_
    refine wq_stat (a := [.int (nI R), .int (nI i)]) (rest := [.int (nI i), .ref (b + 6)]) rfl rfl rfl rfl rfl ?_
    refine r_M_has (by omega) (by omega) (fun c158 => ?_) (fun c158 => ?_)
    · skip
      show WP _ _ _ _ 161 [.ref b, .int (nI a), .int (nI bb), .int (nI num), .int (nI R), .int (nI was), .int (nI l), .int (nI i)] [.int (nI 1), .int (nI i), .ref (b + 6)] (mS b pre F G th pcs brs be (pw i (fun q => R.testBit q) (fun _ => l) po) ro kf bg en)
      refine wq_if_eq rfl (fun c => absurd c (by decide)) (fun _ => ?_)
      refine wq_iload rfl rfl ?_
      refine wq_goto rfl ?_
      refine wn_iastore (g := (pw i (fun q => R.testBit q) (fun _ => l) po)) (h' := mS b pre F G th pcs brs be (uN' ((pw i (fun q => R.testBit q) (fun _ => l) po)) i l) ro kf bg en) rfl (mS_a10 hb) (by omega) (by decide) (mS_t10 hb) ?_
      refine wn_inc (lv' := [.ref b, .int (nI a), .int (nI bb), .int (nI num), .int (nI R), .int (nI was), .int (nI l), .int (nI (i + 1))]) rfl rfl rfl ?_
      refine wq_goto rfl ?_
      rw [pw_s (by simp [c158, pw_at])]
      exact ih (i + 1) (by omega)
    · skip
      show WP _ _ _ _ 161 [.ref b, .int (nI a), .int (nI bb), .int (nI num), .int (nI R), .int (nI was), .int (nI l), .int (nI i)] [.int (nI 0), .int (nI i), .ref (b + 6)] (mS b pre F G th pcs brs be (pw i (fun q => R.testBit q) (fun _ => l) po) ro kf bg en)
      refine wq_if_eq rfl (fun _ => ?_) (fun c => absurd c (by decide))
      refine wq_aload_n rfl rfl ?_
      refine wq_getfield (v := .ref (b + 6)) rfl (mS_o hb) rfl ?_
      refine wq_iload rfl rfl ?_
      refine wn_iaload (g := (pw i (fun q => R.testBit q) (fun _ => l) po)) rfl (mS_a10 hb) (by omega) (by decide) ?_
      refine wn_iastore (g := (pw i (fun q => R.testBit q) (fun _ => l) po)) (h' := mS b pre F G th pcs brs be (uN' ((pw i (fun q => R.testBit q) (fun _ => l) po)) i (((pw i (fun q => R.testBit q) (fun _ => l) po)) i)) ro kf bg en) rfl (mS_a10 hb) (by omega) (by decide) (mS_t10 hb) ?_
      refine wn_inc (lv' := [.ref b, .int (nI a), .int (nI bb), .int (nI num), .int (nI R), .int (nI was), .int (nI l), .int (nI (i + 1))]) rfl rfl rfl ?_
      refine wq_goto rfl ?_
      rw [pw_s (by simp [c158, pw_at])]
      exact ih (i + 1) (by omega)
def beP (be : Nat → Nat) (a bb : Nat) : Nat → Nat := uN' (uN' be a (nd (be a) (1 <<< bb))) bb (nd (uN' be a (nd (be a) (1 <<< bb)) bb) (1 <<< a))
theorem r_S_parts {d b : Nat} {pre : mH} {F : Nat → Nat} {G : Nat → Nat → Nat} {th pcs brs : Nat} {be po ro bg en : Nat → Nat} {kf : Nat → Nat → Nat} {Q : Option Value → mH → Prop} (hb : pre.length = b) {a bb num : Nat} (ha : a < 9) (hbb : bb < 9) (hab : a ≠ bb) (hbe : ∀ p, p < 9 → be p < 512) (hpo : po a < 9) (hpa : pcs.testBit (po a) = true) (hro : ro (po a) < 1000) (hp : pcs < 512) (hfree : ∀ l, l ≤ 9 → pcs.testBit l = false → (∀ j, j < l → pcs.testBit j = true) → l < 9) (hQ1 : ∀ R, R < 512 → R.testBit bb = true → ClR (beP be a bb) R → (∀ S, S.testBit bb = true → ClR (beP be a bb) S → ∀ t, R.testBit t = true → S.testBit t = true) → R.testBit a = true → Q none (mS b pre F G th pcs brs (beP be a bb) po ro kf bg en)) (hQ2 : ∀ R l, R < 512 → R.testBit bb = true → ClR (beP be a bb) R → (∀ S, S.testBit bb = true → ClR (beP be a bb) S → ∀ t, R.testBit t = true → S.testBit t = true) → R.testBit a = false → l < 9 → pcs.testBit l = false → Q none (mS b pre F G th (pcs ||| 1 <<< l) brs (beP be a bb) (pw 9 (fun q => R.testBit q) (fun _ => l) po) (uN' ro l (ro (po a))) (sK (kp kf (po a) l 9) l (po a) num) bg en)) : Rn mprog (d + 3) n_M_parts [.ref b, .int (nI a), .int (nI bb), .int (nI num)] (mS b pre F G th pcs brs be po ro kf bg en) Q := by
  refine Rn.in rfl rfl rfl ?_
  show WP _ _ _ _ 0 [.ref b, .int (nI a), .int (nI bb), .int (nI num), .long 0, .long 0, .long 0, .long 0] [] (mS b pre F G th pcs brs be po ro kf bg en)
  have hsa := Nat.lt_trans (sh_lt (n := 9) ha) (show 2 ^ 9 < 2 ^ 32 by decide)
  have hsb := Nat.lt_trans (sh_lt (n := 9) hbb) (show 2 ^ 9 < 2 ^ 32 by decide)
  have hbe2 : ∀ p, p < 9 → (beP be a bb) p < 512 := by
    intro p hp
    have h1 : ∀ p, p < 9 → uN' be a (nd (be a) (1 <<< bb)) p < 512 := by
      intro p hp
      unfold uN'
      split
      · exact nd_lt (n := 9) (hbe a ha)
      · exact hbe p hp
    show uN' (uN' be a (nd (be a) (1 <<< bb))) bb (nd (uN' be a (nd (be a) (1 <<< bb)) bb) (1 <<< a)) p < 512
    by_cases e : p = bb
    · rw [e, uN_s]
      exact nd_lt (n := 9) (h1 bb hbb)
    · rw [uN_n e]
      exact h1 p hp
  refine wq_aload_n rfl rfl ?_
  refine wq_getfield (v := .ref (b + 5)) rfl (mS_o hb) rfl ?_
  refine wq_iload_n rfl rfl ?_
  refine wq_dup2 rfl rfl rfl ?_
  refine wn_iaload (g := be) rfl (mS_a9 hb) (by omega) (by decide) ?_
  refine wq_iconst (v := nI 1) rfl (by decide) ?_
  refine wq_iload_n rfl rfl ?_
  refine wn_ishl rfl (by omega) hsb ?_
  refine wq_iconst (v := (-1)) rfl (by decide) ?_
  refine wq_ixor (v := (nI (1 <<< bb) ^^^ (-1))) rfl rfl ?_
  refine wn_andn rfl ?_
  refine wn_iastore (g := be) (h' := mS b pre F G th pcs brs (uN' be a (nd (be a) (1 <<< bb))) po ro kf bg en) rfl (mS_a9 hb) (by omega) (by decide) (mS_t9 hb) ?_
  refine wq_aload_n rfl rfl ?_
  refine wq_getfield (v := .ref (b + 5)) rfl (mS_o hb) rfl ?_
  refine wq_iload_n rfl rfl ?_
  refine wq_dup2 rfl rfl rfl ?_
  refine wn_iaload (g := (uN' be a (nd (be a) (1 <<< bb)))) rfl (mS_a9 hb) (by omega) (by decide) ?_
  refine wq_iconst (v := nI 1) rfl (by decide) ?_
  refine wq_iload_n rfl rfl ?_
  refine wn_ishl rfl (by omega) hsa ?_
  refine wq_iconst (v := (-1)) rfl (by decide) ?_
  refine wq_ixor (v := (nI (1 <<< a) ^^^ (-1))) rfl rfl ?_
  refine wn_andn rfl ?_
  refine wn_iastore (g := (uN' be a (nd (be a) (1 <<< bb)))) (h' := mS b pre F G th pcs brs (uN' ((uN' be a (nd (be a) (1 <<< bb)))) bb (nd (((uN' be a (nd (be a) (1 <<< bb)))) bb) (1 <<< a))) po ro kf bg en) rfl (mS_a9 hb) (by omega) (by decide) (mS_t9 hb) ?_
  refine wq_aload_n rfl rfl ?_
  refine wq_iload_n rfl rfl ?_
  refine wq_virt (b := b) (a := [.int (nI bb)]) (rest := []) rfl rfl rfl rfl rfl (mS_o hb) ?_
  refine r_S_reach hb (by omega) hbe2 ?_
  intro R hR hRb hRc hRm
  show WP _ _ _ _ 33 [.ref b, .int (nI a), .int (nI bb), .int (nI num), .long 0, .long 0, .long 0, .long 0] [.int (nI R)] (mS b pre F G th pcs brs (uN' ((uN' be a (nd (be a) (1 <<< bb)))) bb (nd (((uN' be a (nd (be a) (1 <<< bb)))) bb) (1 <<< a))) po ro kf bg en)
  refine wq_istore (lv' := [.ref b, .int (nI a), .int (nI bb), .int (nI num), .int (nI R), .long 0, .long 0, .long 0]) rfl rfl rfl ?_
  refine wq_iload rfl rfl ?_
  refine wq_iload_n rfl rfl ?_
  refine wq_stat (a := [.int (nI R), .int (nI a)]) (rest := []) rfl rfl rfl rfl rfl ?_
  refine r_M_has (by omega) (by omega) (fun c38 => ?_) (fun c38 => ?_)
  · skip
    show WP _ _ _ _ 41 [.ref b, .int (nI a), .int (nI bb), .int (nI num), .int (nI R), .long 0, .long 0, .long 0] [.int (nI 1)] (mS b pre F G th pcs brs (uN' ((uN' be a (nd (be a) (1 <<< bb)))) bb (nd (((uN' be a (nd (be a) (1 <<< bb)))) bb) (1 <<< a))) po ro kf bg en)
    refine wq_if_eq rfl (fun c => absurd c (by decide)) (fun _ => ?_)
    refine wq_vret rfl rfl ?_
    exact hQ1 R hR hRb hRc hRm c38
  · skip
    show WP _ _ _ _ 41 [.ref b, .int (nI a), .int (nI bb), .int (nI num), .int (nI R), .long 0, .long 0, .long 0] [.int (nI 0)] (mS b pre F G th pcs brs (uN' ((uN' be a (nd (be a) (1 <<< bb)))) bb (nd (((uN' be a (nd (be a) (1 <<< bb)))) bb) (1 <<< a))) po ro kf bg en)
    refine wq_if_eq rfl (fun _ => ?_) (fun c => absurd c (by decide))
    refine wq_aload_n rfl rfl ?_
    refine wq_getfield (v := .ref (b + 6)) rfl (mS_o hb) rfl ?_
    refine wq_iload_n rfl rfl ?_
    refine wn_iaload (g := po) rfl (mS_a10 hb) (by omega) (by decide) ?_
    refine wq_istore (lv' := [.ref b, .int (nI a), .int (nI bb), .int (nI num), .int (nI R), .int (nI (po a)), .long 0, .long 0]) rfl rfl rfl ?_
    refine wq_aload_n rfl rfl ?_
    refine wq_virt (b := b) (a := []) (rest := []) rfl rfl rfl rfl rfl (mS_o hb) ?_
    refine r_S_freePiece hb hp ?_
    intro l hl9 hlb hlj
    have hl : l < 9 := hfree l hl9 hlb hlj
    show WP _ _ _ _ 57 [.ref b, .int (nI a), .int (nI bb), .int (nI num), .int (nI R), .int (nI (po a)), .long 0, .long 0] [.int (nI l)] (mS b pre F G th pcs brs (uN' ((uN' be a (nd (be a) (1 <<< bb)))) bb (nd (((uN' be a (nd (be a) (1 <<< bb)))) bb) (1 <<< a))) po ro kf bg en)
    refine wq_istore (lv' := [.ref b, .int (nI a), .int (nI bb), .int (nI num), .int (nI R), .int (nI (po a)), .int (nI l), .long 0]) rfl rfl rfl ?_
    refine wq_aload_n rfl rfl ?_
    refine wq_dup rfl rfl ?_
    refine wq_getfield (v := .int (nI pcs)) rfl (mS_o hb) rfl ?_
    refine wq_iconst (v := nI 1) rfl (by decide) ?_
    refine wq_iload rfl rfl ?_
    refine wn_ishl rfl (by omega) (Nat.lt_trans (sh_lt (n := 9) hl) (by decide)) ?_
    refine wn_ior rfl ?_
    refine wq_putfield (h' := mS b pre F G th (pcs ||| (1 <<< l)) brs (uN' ((uN' be a (nd (be a) (1 <<< bb)))) bb (nd (((uN' be a (nd (be a) (1 <<< bb)))) bb) (1 <<< a))) po ro kf bg en) rfl (mS_o hb) rfl (mS_s11 hb) ?_
    refine wq_aload_n rfl rfl ?_
    refine wq_getfield (v := .ref (b + 7)) rfl (mS_o hb) rfl ?_
    refine wq_iload rfl rfl ?_
    refine wq_aload_n rfl rfl ?_
    refine wq_getfield (v := .ref (b + 7)) rfl (mS_o hb) rfl ?_
    refine wq_iload rfl rfl ?_
    refine wn_iaload (g := ro) rfl (mS_a12 hb) (by omega) (by decide) ?_
    refine wn_iastore (g := ro) (h' := mS b pre F G th (pcs ||| (1 <<< l)) brs (uN' ((uN' be a (nd (be a) (1 <<< bb)))) bb (nd (((uN' be a (nd (be a) (1 <<< bb)))) bb) (1 <<< a))) po (uN' ro l (ro (po a))) kf bg en) rfl (mS_a12 hb) (by omega) (by decide) (mS_t12 hb) ?_
    refine wq_iconst (v := nI 0) rfl (by decide) ?_
    refine wq_istore (lv' := [.ref b, .int (nI a), .int (nI bb), .int (nI num), .int (nI R), .int (nI (po a)), .int (nI l), .int (nI 0)]) rfl rfl rfl ?_
    have hwl : po a ≠ l := fun q => by rw [q, hlb] at hpa; cases hpa
    refine l_S_parts1' (kf := kf) hb hl hpo hwl ?_
    refine wq_aload_n rfl rfl ?_
    refine wq_iload rfl rfl ?_
    refine wq_iload rfl rfl ?_
    refine wq_iload_n rfl rfl ?_
    refine wq_virt (b := b) (a := [.int (nI l), .int (nI (po a)), .int (nI num)]) (rest := []) rfl rfl rfl rfl rfl (mS_o hb) ?_
    refine r_S_makesKin hb (by omega) (by omega) ?_
    show WP _ _ _ _ 138 [.ref b, .int (nI a), .int (nI bb), .int (nI num), .int (nI R), .int (nI (po a)), .int (nI l), .int (nI 9)] [] (mS b pre F G th (pcs ||| (1 <<< l)) brs (uN' ((uN' be a (nd (be a) (1 <<< bb)))) bb (nd (((uN' be a (nd (be a) (1 <<< bb)))) bb) (1 <<< a))) po (uN' ro l (ro (po a))) (sK (kp kf (po a) l 9) l (po a) num) bg en)
    refine wq_iconst (v := nI 0) rfl (by decide) ?_
    refine wq_istore (lv' := [.ref b, .int (nI a), .int (nI bb), .int (nI num), .int (nI R), .int (nI (po a)), .int (nI l), .int (nI 0)]) rfl rfl rfl ?_
    have q := l_S_parts2 (d := d) (kf := sK (kp kf (po a) l 9) l (po a) num) (po := po) (R := R) (a := a) (bb := bb) (num := num) (was := po a) hb hl hR (hQ2 R l hR hRb hRc hRm c38 hl hlb) 9 0 rfl
    rw [pw_0] at q
    exact q
