/-! the reference: runsAll -/
theorem BL_tail {nn : Nat} {f g : Nat → Nat} {l : List (Nat × Nat)} (h : BL (nn + 1) f g l) : ∃ l', l = (f nn, g nn) :: l' ∧ BL nn f g l' := by
  obtain ⟨h1, h2⟩ := h
  cases l with
  | nil => cases h1
  | cons x l' =>
    refine ⟨l', ?_, by simpa using h1, fun i hi => ?_⟩
    · have e := h2 nn (Nat.lt_succ_self nn)
      have e2 : nn + 1 - 1 - nn = 0 := by omega
      rw [e2] at e
      cases e
      rfl
    · have e := h2 i (by omega)
      have e2 : nn + 1 - 1 - i = (nn - 1 - i) + 1 := by omega
      rw [e2] at e
      simpa using e
theorem BL_eq {nn mm : Nat} {f g f' g' : Nat → Nat} {l : List (Nat × Nat)} (h : BL nn f g l) (h' : BL mm f' g' l) : nn = mm ∧ ∀ i, i < nn → f i = f' i ∧ g i = g' i := by
  have e : nn = mm := by rw [← h.1, h'.1]
  subst e
  refine ⟨rfl, fun i hi => ?_⟩
  have e1 := h.2 i hi
  rw [h'.2 i hi] at e1
  have e2 := Option.some.inj e1
  exact ⟨(congrArg Prod.fst e2).symm, (congrArg Prod.snd e2).symm⟩
theorem BL_mem {nn : Nat} {f g : Nat → Nat} {l : List (Nat × Nat)} (h : BL nn f g l) : ∀ i, i < nn → (f i, g i) ∈ l := fun i hi => List.mem_of_getElem? (h.2 i hi)
/-- how many of the first have it -/
def cntA (p : Nat → Bool) : Nat → Nat
  | 0 => 0
  | i + 1 => cntA p i + (if p i = true then 1 else 0)
theorem cntA_le (p : Nat → Bool) : ∀ n, cntA p n ≤ n
  | 0 => Nat.le_refl 0
  | n + 1 => by
    unfold cntA
    have := cntA_le p n
    split <;> omega
theorem cntA_congr {p q : Nat → Bool} : ∀ n, (∀ i, i < n → p i = q i) → cntA p n = cntA q n
  | 0, _ => rfl
  | n + 1, h => by
    unfold cntA
    rw [cntA_congr n (fun i hi => h i (by omega)), h n (Nat.lt_succ_self n)]
theorem cntA_list {f g : Nat → Nat} {P : Nat × Nat → Bool} : ∀ (nn : Nat) (l : List (Nat × Nat)), BL nn f g l → cntA (fun i => P (f i, g i)) nn = l.countP P
  | 0, l, h => by
    have : l = [] := List.eq_nil_of_length_eq_zero h.1
    subst this
    rfl
  | nn + 1, l, h => by
    obtain ⟨l', e, h'⟩ := BL_tail h
    subst e
    unfold cntA
    rw [cntA_list nn l' h', List.countP_cons]
theorem insR_count {x : Nat × Nat} {P : Nat × Nat → Bool} : ∀ l, (insR x l).countP P = l.countP P + (if P x = true then 1 else 0)
  | [] => by
    unfold insR
    rw [List.countP_cons]
  | y :: l => by
    unfold insR
    split
    · rw [List.countP_cons, List.countP_cons, insR_count l]
      omega
    · rw [List.countP_cons, List.countP_cons]
theorem ins_count {P : Nat × Nat → Bool} (bs : List (Nat × Nat)) : ∀ l, (bs.foldl (fun l x => insR x l) l).countP P = l.countP P + bs.countP P := by
  induction bs with
  | nil => intro l; rfl
  | cons x bs ih =>
    intro l
    rw [List.foldl_cons, ih, insR_count, List.countP_cons]
    omega
theorem srt_count {P : Nat × Nat → Bool} (bs : List (Nat × Nat)) : (srt bs).countP P = bs.countP P := by
  unfold srt
  rw [ins_count]
  simp
theorem srt_mem {bs : List (Nat × Nat)} {P : Nat × Nat → Prop} (h : ∀ x ∈ bs, P x) : ∀ x ∈ srt bs, P x := by
  have key : ∀ (bs l : List (Nat × Nat)), (∀ x ∈ bs, P x) → (∀ x ∈ l, P x) → ∀ x ∈ bs.foldl (fun l x => insR x l) l, P x := by
    have ins : ∀ (y : Nat × Nat) (l : List (Nat × Nat)), P y → (∀ x ∈ l, P x) → ∀ x ∈ insR y l, P x := by
      intro y l
      induction l with
      | nil =>
        intro hy _ x hx
        unfold insR at hx
        rw [List.mem_singleton.mp hx]
        exact hy
      | cons z l ih =>
        intro hy hl x hx
        unfold insR at hx
        split at hx
        · rcases List.mem_cons.mp hx with r | r
          · rw [r]; exact hl z List.mem_cons_self
          · exact ih hy (fun x hx => hl x (List.mem_cons_of_mem _ hx)) x r
        · rcases List.mem_cons.mp hx with r | r
          · rw [r]; exact hy
          · exact hl x r
    intro bs
    induction bs with
    | nil => intro l _ hl; exact hl
    | cons y bs ih =>
      intro l hb hl
      rw [List.foldl_cons]
      exact ih _ (fun x hx => hb x (List.mem_cons_of_mem _ hx)) (ins y l (hb y List.mem_cons_self) hl)
  exact key bs [] h (fun x hx => absurd hx List.not_mem_nil)
theorem opL_mem {pts k : Nat} {nr rt : Nat → Nat} {sc : Nat → Nat → Nat} (hT : TI pts nr rt sc k) {x : Nat × Nat} : ∀ m i left, i + m ≤ 9 → (∀ t, left.testBit t = true → pts.testBit t = true) → x ∈ opL nr rt sc m i left → 1 ≤ x.1 ∧ x.1 ≤ k ∧ x.2 = 99
  | 0, _, _, _, _, h => absurd h List.not_mem_nil
  | m + 1, i, left, hi, hl, h => by
    unfold opL at h
    split at h
    next e =>
      rcases List.mem_cons.mp h with r | r
      · subst r
        dsimp only
        have h1 := mxS_b (oth := nd left (pOf nr i)) (m := k) (r := sc i) (fun q hq => hT.2.2.2.2.2.2.2.2.1 i q (by omega) hq)
        have h2 := hT.2.2.2.2.2.2.2.2.2.1 i (by omega)
        have h3 := hT.2.2.2.2.2.2.2.2.2.2 i (by omega) (hl i e)
        split <;> omega
      · exact opL_mem hT m (i + 1) _ (by omega) (fun t ht => by rw [nd_bit, Bool.and_eq_true] at ht; exact hl t ht.1) r
    next e => exact opL_mem hT m (i + 1) left (by omega) hl h
theorem opT_mem {τ : TT} {k : Nat} (h : TV τ k) : ∀ x ∈ opT τ, 1 ≤ x.1 ∧ x.1 ≤ k ∧ x.2 = 99 := fun x hx => opL_mem h.1 9 0 τ.1 (Nat.le_refl 9) (fun t ht => ht) hx
theorem bs_mem {τ : TT} {k : Nat} (h : TV τ k) (hk : k ≤ 40) : ∀ x ∈ τ.2.2.2.2.2 ++ opT τ, BV x := fun x hx => by
  rcases List.mem_append.mp hx with r | r
  · have := h.2.2.2 x r
    exact ⟨by omega, by omega, by omega, by omega⟩
  · have := opT_mem h x r
    exact ⟨by omega, by omega, by omega, by omega⟩
theorem bs_open {τ : TT} {k : Nat} (h : TV τ k) (hk : k ≤ 40) : (srt (τ.2.2.2.2.2 ++ opT τ)).countP (fun x => Nat.beq x.2 99) = (opT τ).length := by
  rw [srt_count, List.countP_append]
  have e1 : τ.2.2.2.2.2.countP (fun x => Nat.beq x.2 99) = 0 := List.countP_eq_zero.mpr (fun x hx => by
    have := h.2.2.2 x hx
    rw [Nat.beq_eq]
    omega)
  have e2 : (opT τ).countP (fun x => Nat.beq x.2 99) = (opT τ).length := List.countP_eq_length.mpr (fun x hx => by
    rw [Nat.beq_eq]
    exact (opT_mem h x hx).2.2)
  rw [e1, e2, Nat.zero_add]
theorem inA_BV {f g : Nat → Nat} {p i nn : Nat} (hp : p ≤ i) (hi : i < nn) (h : ∀ j, j < nn → BV (f j, g j)) : ∀ j, j < nn → BV (inA f p i (f i) j, inA g p i (g i) j) := fun j hj => by
  rcases Nat.lt_trichotomy j p with r | r | r
  · rw [inA_lo r, inA_lo r]
    exact h j hj
  · subst r
    rw [inA_at, inA_at]
    exact h i hi
  · rcases Nat.lt_or_ge i j with q | q
    · rw [inA_out q hp, inA_out q hp]
      exact h j hj
    · rw [inA_hi r q, inA_hi r q]
      exact h (j - 1) (by omega)
theorem l_S_sort {d b : Nat} {pre : mH} {F : Nat → Nat} {G : Nat → Nat → Nat} {th pcs brs : Nat} {be po ro : Nat → Nat} {kf : Nat → Nat → Nat} {Q : Option Value → mH → Prop} (hb : pre.length = b) {l : List (Nat × Nat)} (hl : l.length = brs) (hn : brs < 60) (hk : ∀ bg en, BL brs bg en (srt l) → Q (some (.int (nI 1))) (mS b pre F G th pcs brs be po ro kf bg en)) : ∀ (m i : Nat) (v2 v3 v4 : Value) (bg en : Nat → Nat), i + m = brs → BL i bg en (srt (l.take i)) → (∀ j, i ≤ j → j < brs → l[j]? = some (bg j, en j)) → (∀ j, j < brs → BV (bg j, en j)) → WP (Rn mprog (d + 2)) k_M_runsAll (some .boolean) Q 84 [.ref b, .int (nI i), v2, v3, v4] [] (mS b pre F G th pcs brs be po ro kf bg en) := by
  intro m
  induction m with
  | zero =>
    intro i v2 v3 v4 bg en hi hB hr hv
    have e : i = brs := by omega
    subst e
    rw [List.take_of_length_le (by omega)] at hB
    refine wq_iload_n rfl rfl ?_
    refine wq_aload_n rfl rfl ?_
    refine wq_getfield (v := .int (nI i)) rfl (mS_o hb) rfl ?_
    refine wn_ic_ge rfl (by omega) (by omega) (fun c89 => ?_) (fun c89 => absurd c89 (by omega))
    refine wq_iconst (v := nI 1) rfl (by decide) ?_
    refine wq_iret rfl (by first | exact Or.inl rfl | exact Or.inr rfl) ?_
    exact hk _ _ hB
  | succ m ih =>
    intro i v2 v3 v4 bg en hi hB hr hv
    refine wq_iload_n rfl rfl ?_
    refine wq_aload_n rfl rfl ?_
    refine wq_getfield (v := .int (nI brs)) rfl (mS_o hb) rfl ?_
    refine wn_ic_ge rfl (by omega) (by omega) (fun c89 => absurd c89 (by omega)) (fun c89 => ?_)
    refine wq_iload_n rfl rfl ?_
    refine wq_istore_n (lv' := [.ref b, .int (nI i), .int (nI i), v3, v4]) rfl rfl rfl ?_
    have K : ∀ p v3 v4, p ≤ i → (∀ j, p ≤ j → j < i → gtP (bg j) (en j) (bg i) (en i) = true) → (p = 0 ∨ gtP (bg (p - 1)) (en (p - 1)) (bg i) (en i) = false) → WP (Rn mprog (d + 2)) k_M_runsAll (some .boolean) Q 205 [.ref b, .int (nI i), .int (nI p), v3, v4] [] (mS b pre F G th pcs brs be po ro kf (inA bg p i (bg i)) (inA en p i (en i))) := by
      intro p v3 v4 hp g1 g2
      refine wn_inc (lv' := [.ref b, .int (nI (i + 1)), .int (nI p), v3, v4]) rfl rfl rfl ?_
      refine wq_goto rfl ?_
      refine ih (i + 1) _ _ _ _ _ (by omega) ?_ (fun j q1 q2 => ?_) (inA_BV hp (by omega) hv)
      · have e := BL_ins hB hp g1 g2
        have e2 := hr i (Nat.le_refl i) (by omega)
        rw [List.take_add_one, e2]
        show BL (i + 1) _ _ (srt (l.take i ++ [(bg i, en i)]))
        rw [srt_snoc]
        exact e
      · rw [inA_out (by omega) hp, inA_out (by omega) hp]
        exact hr j (by omega) q2
    have K2 := l_S_insI (f := bg) (g := en) hb (by omega) (fun j hj => hv j (by omega)) K i v3 v4 (Nat.le_refl i) (fun j q1 q2 => absurd q1 (by omega))
    rw [inA_self, inA_self] at K2
    exact K2
theorem r_S_runsAll {d b : Nat} {pre : mH} {F : Nat → Nat} {G : Nat → Nat → Nat} {th pcs brs : Nat} {be po ro bg en : Nat → Nat} {kf : Nat → Nat → Nat} {Q : Option Value → mH → Prop} (hb : pre.length = b) (hro : ∀ p, p < 9 → ro p < 1000) (hkf : ∀ p q, p < 9 → q < 9 → kf p q < 1000) {ra : Nat → Nat} (hac : G 3 0 ≤ 40) (hav : ∀ i, i < G 3 0 → AV (ra i)) (hg : ∀ i, i < G 3 0 → G 3 (i + 1) = cdA (ra i)) (ht : okR ra (G 3 0) → ∀ th' pcs' brs' be' po' ro' kf' bg' en', BL brs' bg' en' (bsR ra (G 3 0)) → (∀ p, p < 9 → ro' p < 1000) → (∀ p q, p < 9 → q < 9 → kf' p q < 1000) → Q (some (.int (nI 1))) (mS b pre F G th' pcs' brs' be' po' ro' kf' bg' en')) (hf : ¬ okR ra (G 3 0) → ∀ th' pcs' brs' be' po' ro' kf' bg' en', (∀ p, p < 9 → ro' p < 1000) → (∀ p q, p < 9 → q < 9 → kf' p q < 1000) → Q (some (.int (nI 0))) (mS b pre F G th' pcs' brs' be' po' ro' kf' bg' en')) : Rn mprog (d + 6) n_M_runsAll [.ref b] (mS b pre F G th pcs brs be po ro kf bg en) Q := by
  refine Rn.in rfl rfl rfl ?_
  show WP _ _ _ _ 0 [.ref b, .long 0, .long 0, .long 0, .long 0] [] (mS b pre F G th pcs brs be po ro kf bg en)
  refine wq_aload_n rfl rfl ?_
  refine wq_aload_n rfl rfl ?_
  refine wq_getfield (v := .ref (b + 2)) rfl (mS_o hb) rfl ?_
  refine wq_iconst (v := nI 0) rfl (by decide) ?_
  refine wn_iaload (g := (G 3)) rfl (mS_a3 hb) (by omega) (by decide) ?_
  refine wq_virt (b := b) (a := [.int (nI (((G 3)) 0))]) (rest := []) rfl rfl rfl rfl rfl (mS_o hb) ?_
  refine r_S_runs hb hro hkf hac hav hg (fun hok th2 pcs2 brs2 be2 po2 ro2 kf2 bg2 en2 hS => ?_) (fun hok th2 pcs2 brs2 be2 po2 ro2 kf2 bg2 en2 g1 g2 => ?_)
  · skip
    show WP _ _ _ _ 10 [.ref b, .long 0, .long 0, .long 0, .long 0] [.int (nI 1)] (mS b pre F G th2 pcs2 brs2 be2 po2 ro2 kf2 bg2 en2)
    refine wq_if_ne rfl (fun _ => ?_) (fun c => absurd c (by decide))
    refine wq_iconst (v := nI 0) rfl (by decide) ?_
    refine wq_istore_n (lv' := [.ref b, .int (nI 0), .long 0, .long 0, .long 0]) rfl rfl rfl ?_
    have hTV := TV_run _ hav hok
    have hcap := opT_len hTV
    have hL := hS.2.2.1
    refine l_S_open (d := d + 3) (bs0 := (stR ra (G 3 0)).2.2.2.2.2 ++ opT (stR ra (G 3 0))) hb hTV.1.2.1 hS.1 hTV.1.1 hL hS.2.2.2.1 hS.2.2.2.2.2.2.2.1 hS.2.2.2.2.2.2.2.2 (fun L3 brs3 bg3 en3 gl ge => ?_) 9 0 _ _ _ _ _ _ rfl ⟨fun t ht => ⟨fun z => ⟨z, hL.2.2.1 t ht z⟩, fun z => z.1⟩, fun l z => z, fun j hj => absurd hj (Nat.not_lt_zero j), hTV.1.1, hL.1⟩ hS.2.2.2.2.1 hS.2.2.2.2.2.1 rfl (by
      rw [← hS.2.2.2.2.1]
      exact Nat.le_trans hcap hac)
    have hb60 : brs3 < 60 := by
      rw [← gl, List.length_append]
      omega
    have hbv : ∀ j, j < brs3 → BV (bg3 j, en3 j) := fun j hj => bs_mem hTV hac _ (List.mem_of_getElem? (ge j hj))
    have hQ1 : ∀ bg en, BL brs3 bg en (srt ((stR ra (G 3 0)).2.2.2.2.2 ++ opT (stR ra (G 3 0)))) → Q (some (.int (nI 1))) (mS b pre F G th2 L3 brs3 be2 po2 ro2 kf2 bg en) := fun bg en hB => ht hok _ _ _ _ _ _ _ _ _ hB hS.2.2.2.2.2.2.2.1 hS.2.2.2.2.2.2.2.2
    refine wq_iconst (v := nI 1) rfl (by decide) ?_
    refine wq_istore_n (lv' := [.ref b, .int (nI 1), .long 0, .long 0, .long 0]) rfl rfl rfl ?_
    rcases Nat.eq_zero_or_pos brs3 with z | z
    · subst z
      refine wq_iload_n rfl rfl ?_
      refine wq_aload_n rfl rfl ?_
      refine wq_getfield (v := .int (nI 0)) rfl (mS_o hb) rfl ?_
      refine wq_ic_ge rfl (fun _ => ?_) (fun c => absurd c (by decide))
      refine wq_iconst (v := nI 1) rfl (by decide) ?_
      refine wq_iret rfl (by first | exact Or.inl rfl | exact Or.inr rfl) ?_
      exact hQ1 _ _ (by have e := List.eq_nil_of_length_eq_zero gl; rw [e]; exact BL_nil _ _)
    · refine l_S_sort (d := d + 3) hb gl hb60 hQ1 (brs3 - 1) 1 _ _ _ _ _ (by omega) ?_ (fun j _ q => ge j q) hbv
      have e0 := ge 0 z
      rw [List.take_add_one, List.take_zero, e0]
      refine ⟨rfl, fun i hi => ?_⟩
      have : i = 0 := by omega
      subst this
      rfl
  · skip
    show WP _ _ _ _ 10 [.ref b, .long 0, .long 0, .long 0, .long 0] [.int (nI 0)] (mS b pre F G th2 pcs2 brs2 be2 po2 ro2 kf2 bg2 en2)
    refine wq_if_ne rfl (fun c => absurd c (by decide)) (fun _ => ?_)
    refine wq_iconst (v := nI 0) rfl (by decide) ?_
    refine wq_iret rfl (by first | exact Or.inl rfl | exact Or.inr rfl) ?_
    exact hf hok _ _ _ _ _ _ _ _ _ g1 g2
