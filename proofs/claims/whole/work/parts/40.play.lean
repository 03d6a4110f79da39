/-! Story.play -/
theorem r_Sto_open {d b : Nat} {pre suf : mH} {pts : Nat} {edg : Nat} {nr : Nat → Nat} {rt : Nat → Nat} {sc : Nat → Nat → Nat} {wf : Nat → Nat} {ws : Nat → Nat} {bsz : Nat} {bop : Nat} {bbg : Nat → Nat} {ben : Nat → Nat} {Q : Option Value → mH → Prop} (hb : pre.length = b) (hpt : pts < 512) (hnr : ∀ p, p < 9 → nr p < 512) (hsc : ∀ p q, p < 9 → q < 9 → sc p q < 1000) (hrt : ∀ p, p < 9 → rt p < 1000) {rb : List (Nat × Nat)} (hBL : BL bsz bbg ben rb) (hbv : ∀ i, i < 40 → bbg i < 2 ^ 31 ∧ ben i < 2 ^ 31) (hcap : bsz + (opL nr rt sc 9 0 pts).length ≤ 40) (hQ : ∀ bsz2 bop2 bbg2 ben2, BL bsz2 bbg2 ben2 ((opL nr rt sc 9 0 pts).foldl (fun l x => insR x l) rb) → bop2 = bop + (opL nr rt sc 9 0 pts).length → (∀ i, i < 40 → bbg2 i < 2 ^ 31 ∧ ben2 i < 2 ^ 31) → Q none (sW b pre pts edg nr rt sc wf ws bsz2 bop2 bbg2 ben2 suf)) : Rn mprog (d + 5) n_Sto_addOpenBars [.ref b] (sW b pre pts edg nr rt sc wf ws bsz bop bbg ben suf) Q := by
  refine Rn.in rfl rfl rfl ?_
  show WP _ _ _ _ 0 [.ref b, .long 0, .long 0] [] (sW b pre pts edg nr rt sc wf ws bsz bop bbg ben suf)
  refine wq_aload_n rfl rfl ?_
  refine wq_getfield (v := .ref (b + 1)) rfl (sW_o0 hb) rfl ?_
  refine wq_virt (b := b + 1) (a := []) (rest := []) rfl rfl rfl rfl rfl (sW_o1 hb) ?_
  rw [sW_n]
  refine r_Net_points (sW_ln hb) ?_
  rw [← sW_n]
  show WP _ _ _ _ 7 [.ref b, .long 0, .long 0] [.int (nI pts)] (sW b pre pts edg nr rt sc wf ws bsz bop bbg ben suf)
  refine wq_istore_n (lv' := [.ref b, .int (nI pts), .long 0]) rfl rfl rfl ?_
  refine wq_iconst (v := nI 0) rfl (by decide) ?_
  refine wq_istore_n (lv' := [.ref b, .int (nI pts), .int (nI 0)]) rfl rfl rfl ?_
  exact l_Sto_open hb hpt hnr hsc hrt 9 0 pts rb bsz bop bbg ben rfl hpt (fun t h => h) hBL hbv hcap hQ
theorem l_Sto_play {d b : Nat} {pre suf : mH} {Q : Option Value → mH → Prop} (hb : pre.length = b) {c rn acts : Nat} {ra : Nat → Nat} (hrn : rn ≤ 40) (hac : acts ≤ rn) (hav : ∀ i, i < rn → AV (ra i)) (hc : ∀ pts edg nr rt sc wf ws bsz bop bbg ben, (sW b pre pts edg nr rt sc wf ws bsz bop bbg ben suf)[c]? = some (.inr (3, [.ref (c + 1), .int (nI rn)]))) (hc1 : ∀ pts edg nr rt sc wf ws bsz bop bbg ben, (sW b pre pts edg nr rt sc wf ws bsz bop bbg ben suf)[c + 1]? = some (.inl (0, 40, .inl (nA ra)))) (ht : okR ra acts → ∀ pts edg nr rt sc wf ws bsz bop bbg ben bs, EqT (pts, edg, nr, rt, sc, bs) (stR ra acts) → BL bsz bbg ben (bsR ra acts) → bop = (opT (stR ra acts)).length → (∀ i, i < 40 → bbg i < 2 ^ 31 ∧ ben i < 2 ^ 31) → Q (some (.int (nI 1))) (sW b pre pts edg nr rt sc wf ws bsz bop bbg ben suf)) (hf : ¬ okR ra acts → ∀ pts edg nr rt sc wf ws bsz bop bbg ben, (∀ i, i < 40 → bbg i < 2 ^ 31 ∧ ben i < 2 ^ 31) → Q (some (.int (nI 0))) (sW b pre pts edg nr rt sc wf ws bsz bop bbg ben suf)) : ∀ (m k : Nat) (av : Value) (pts : Nat) (edg : Nat) (nr : Nat → Nat) (rt : Nat → Nat) (sc : Nat → Nat → Nat) (wf : Nat → Nat) (ws : Nat → Nat) (bsz : Nat) (bop : Nat) (bbg : Nat → Nat) (ben : Nat → Nat) (bs : List (Nat × Nat)), k + m = acts → okR ra k → EqT (pts, edg, nr, rt, sc, bs) (stR ra k) → BL bsz bbg ben (srt bs) → bop = 0 → (∀ i, i < 40 → bbg i < 2 ^ 31 ∧ ben i < 2 ^ 31) → WP (Rn mprog (d + 5)) k_Sto_play (some .boolean) Q 23 [.ref b, .ref c, .int (nI acts), .int (nI (k + 1)), av] [] (sW b pre pts edg nr rt sc wf ws bsz bop bbg ben suf) := by
  intro m
  induction m with
  | zero =>
    intro k av pts edg nr rt sc wf ws bsz bop bbg ben bs hkm hok hEq hBL hbop hbv
    have e : k = acts := by omega
    subst e
    have hTV := TV_run k (fun i hi => hav i (by omega)) hok
    have hTV2 := TV_congr hTV hEq.symm'
    have hcap := opT_len hTV2
    have hbz : bsz = bs.length := by rw [← hBL.1, srt_len]
    refine wq_iload_n rfl rfl ?_
    refine wq_iload_n rfl rfl ?_
    refine wn_ic_gt rfl (by omega) (by omega) (fun c25 => ?_) (fun c25 => absurd c25 (by omega))
    refine wq_aload_n rfl rfl ?_
    refine wq_virt (b := b) (a := []) (rest := []) rfl rfl rfl rfl rfl (sW_o0 hb) ?_
    refine r_Sto_open hb hTV2.1.1 hTV2.1.2.1.1 (fun p q hp hq => by have := hTV2.1.2.2.2.2.2.2.2.2.1 p q hp hq; dsimp only at this; omega) (fun p hp => by have := hTV2.1.2.2.2.2.2.2.2.2.2.1 p hp; dsimp only at this; omega) hBL hbv (by rw [hbz]; exact Nat.le_trans hcap (by omega)) ?_
    intro bsz2 bop2 bbg2 ben2 g1 g2 g3
    show WP _ _ _ _ 72 [.ref b, .ref c, .int (nI k), .int (nI (k + 1)), av] [] (sW b pre pts edg nr rt sc wf ws bsz2 bop2 bbg2 ben2 suf)
    refine wq_iconst (v := nI 1) rfl (by decide) ?_
    refine wq_iret rfl (by first | exact Or.inl rfl | exact Or.inr rfl) ?_
    refine ht hok _ _ _ _ _ _ _ _ _ _ _ bs hEq ?_ ?_ g3
    · have e1 := opT_congr hEq
      unfold bsR
      rw [← e1, ← hEq.2.2.2.2.2, srt_app]
      exact g1
    · rw [← opT_congr hEq, g2, hbop, Nat.zero_add]
      rfl
  | succ m ih =>
    intro k av pts edg nr rt sc wf ws bsz bop bbg ben bs hkm hok hEq hBL hbop hbv
    have hTV := TV_run k (fun i hi => hav i (by omega)) hok
    have hTV2 := TV_congr hTV hEq.symm'
    have hak := hav k (by omega)
    have hmc : mayB pts nr (ra k >>> 8) (ra k >>> 4 &&& 15) (ra k &&& 15) = mayT (stR ra k) (ra k) := by
      unfold mayT
      rw [← hEq.1]
      exact mayB_congr hak.2.1 hEq.2.2.1
    refine wq_iload_n rfl rfl ?_
    refine wq_iload_n rfl rfl ?_
    refine wn_ic_gt rfl (by omega) (by omega) (fun c25 => absurd c25 (by omega)) (fun c25 => ?_)
    refine wq_iload_n rfl rfl ?_
    refine wq_bipush (v := nI 40) rfl (by decide) ?_
    refine wn_ic_gt rfl (by omega) (by omega) (fun c31 => absurd c31 (by omega)) (fun c31 => ?_)
    refine wq_aload_n rfl rfl ?_
    refine wq_iload_n rfl rfl ?_
    refine wq_virt (b := c) (a := [.int (nI (k + 1))]) (rest := []) rfl rfl rfl rfl rfl (hc _ _ _ _ _ _ _ _ _ _ _) ?_
    refine r_Row_actAt (hc _ _ _ _ _ _ _ _ _ _ _) (hc1 _ _ _ _ _ _ _ _ _ _ _) (by omega) (by omega) hrn ?_
    show WP _ _ _ _ 39 [.ref b, .ref c, .int (nI acts), .int (nI (k + 1)), av] [.int (nI (ra k))] (sW b pre pts edg nr rt sc wf ws bsz bop bbg ben suf)
    refine wq_istore (lv' := [.ref b, .ref c, .int (nI acts), .int (nI (k + 1)), .int (nI (ra k))]) rfl rfl rfl ?_
    refine wq_aload_n rfl rfl ?_
    refine wq_getfield (v := .ref (b + 1)) rfl (sW_o0 hb) rfl ?_
    refine wq_iload rfl rfl ?_
    refine wq_virt (b := b + 1) (a := [.int (nI (ra k))]) (rest := []) rfl rfl rfl rfl rfl (sW_o1 hb) ?_
    rw [sW_n]
    refine r_Net_canDo (sW_ln hb) hak.1 hak.2.1 hak.2.2.1 hTV2.1.1 hTV2.1.2.1.1 (fun c47 => ?_) (fun c47 => ?_)
    · skip
      rw [← sW_n]
      show WP _ _ _ _ 50 [.ref b, .ref c, .int (nI acts), .int (nI (k + 1)), .int (nI (ra k))] [.int (nI 1)] (sW b pre pts edg nr rt sc wf ws bsz bop bbg ben suf)
      refine wq_if_ne rfl (fun _ => ?_) (fun c => absurd c (by decide))
      refine wq_aload_n rfl rfl ?_
      refine wq_iload rfl rfl ?_
      refine wq_iload_n rfl rfl ?_
      refine wq_virt (b := b) (a := [.int (nI (ra k)), .int (nI (k + 1))]) (rest := []) rfl rfl rfl rfl rfl (sW_o0 hb) ?_
      refine r_Sto_stepT hb hTV2 (by omega) hak c47 hBL hbv ?_
      intro wf2 ws2 bsz2 bbg2 ben2 g1 g2
      show WP _ _ _ _ 62 [.ref b, .ref c, .int (nI acts), .int (nI (k + 1)), .int (nI (ra k))] [] (sW b pre ((tS (ra k) (k + 1) (pts, edg, nr, rt, sc, bs)).1) ((tS (ra k) (k + 1) (pts, edg, nr, rt, sc, bs)).2.1) ((tS (ra k) (k + 1) (pts, edg, nr, rt, sc, bs)).2.2.1) ((tS (ra k) (k + 1) (pts, edg, nr, rt, sc, bs)).2.2.2.1) ((tS (ra k) (k + 1) (pts, edg, nr, rt, sc, bs)).2.2.2.2.1) wf2 ws2 bsz2 bop bbg2 ben2 suf)
      refine wn_inc (lv' := [.ref b, .ref c, .int (nI acts), .int (nI (k + 1 + 1)), .int (nI (ra k))]) rfl rfl rfl ?_
      refine wq_goto rfl ?_
      have hok2 : okR ra (k + 1) := fun i hi => by
        rcases Nat.lt_or_eq_of_le (Nat.le_of_lt_succ hi) with r | r
        · exact hok i r
        · rw [r, ← hmc]
          exact c47
      exact ih (k + 1) _ _ _ _ _ _ _ _ _ _ _ _ (tS (ra k) (k + 1) (pts, edg, nr, rt, sc, bs)).2.2.2.2.2 (by omega) hok2 (tS_congr hak hEq) g1 hbop g2
    · skip
      rw [← sW_n]
      show WP _ _ _ _ 50 [.ref b, .ref c, .int (nI acts), .int (nI (k + 1)), .int (nI (ra k))] [.int (nI 0)] (sW b pre pts edg nr rt sc wf ws bsz bop bbg ben suf)
      refine wq_if_ne rfl (fun c => absurd c (by decide)) (fun _ => ?_)
      refine wq_iconst (v := nI 0) rfl (by decide) ?_
      refine wq_iret rfl (by first | exact Or.inl rfl | exact Or.inr rfl) ?_
      refine hf (fun z => ?_) _ _ _ _ _ _ _ _ _ _ _ hbv
      have z1 := z k (by omega)
      rw [← hmc, c47] at z1
      cases z1
theorem r_Sto_play {d b : Nat} {pre suf : mH} {pts : Nat} {edg : Nat} {nr : Nat → Nat} {rt : Nat → Nat} {sc : Nat → Nat → Nat} {wf : Nat → Nat} {ws : Nat → Nat} {bsz : Nat} {bop : Nat} {bbg : Nat → Nat} {ben : Nat → Nat} {Q : Option Value → mH → Prop} (hb : pre.length = b) {c rn acts : Nat} {ra : Nat → Nat} (hrn : rn ≤ 40) (hac : acts ≤ rn) (hav : ∀ i, i < rn → AV (ra i)) (hc : ∀ pts edg nr rt sc wf ws bsz bop bbg ben, (sW b pre pts edg nr rt sc wf ws bsz bop bbg ben suf)[c]? = some (.inr (3, [.ref (c + 1), .int (nI rn)]))) (hc1 : ∀ pts edg nr rt sc wf ws bsz bop bbg ben, (sW b pre pts edg nr rt sc wf ws bsz bop bbg ben suf)[c + 1]? = some (.inl (0, 40, .inl (nA ra)))) (hbv : (∀ i, i < 40 → bbg i < 2 ^ 31 ∧ ben i < 2 ^ 31)) (ht : okR ra acts → ∀ pts edg nr rt sc wf ws bsz bop bbg ben bs, EqT (pts, edg, nr, rt, sc, bs) (stR ra acts) → BL bsz bbg ben (bsR ra acts) → bop = (opT (stR ra acts)).length → (∀ i, i < 40 → bbg i < 2 ^ 31 ∧ ben i < 2 ^ 31) → Q (some (.int (nI 1))) (sW b pre pts edg nr rt sc wf ws bsz bop bbg ben suf)) (hf : ¬ okR ra acts → ∀ pts edg nr rt sc wf ws bsz bop bbg ben, (∀ i, i < 40 → bbg i < 2 ^ 31 ∧ ben i < 2 ^ 31) → Q (some (.int (nI 0))) (sW b pre pts edg nr rt sc wf ws bsz bop bbg ben suf)) : Rn mprog (d + 6) n_Sto_play [.ref b, .ref c, .int (nI acts)] (sW b pre pts edg nr rt sc wf ws bsz bop bbg ben suf) Q := by
  refine Rn.in rfl rfl rfl ?_
  show WP _ _ _ _ 0 [.ref b, .ref c, .int (nI acts), .long 0, .long 0] [] (sW b pre pts edg nr rt sc wf ws bsz bop bbg ben suf)
  refine wq_aload_n rfl rfl ?_
  refine wq_getfield (v := .ref (b + 1)) rfl (sW_o0 hb) rfl ?_
  refine wq_virt (b := b + 1) (a := []) (rest := []) rfl rfl rfl rfl rfl (sW_o1 hb) ?_
  rw [sW_n]
  refine r_Net_empty (sW_ln hb) ?_
  rw [← sW_n]
  show WP _ _ _ _ 7 [.ref b, .ref c, .int (nI acts), .long 0, .long 0] [] (sW b pre 0 0 (fz 0 nr 9) rt sc wf ws bsz bop bbg ben suf)
  refine wq_aload_n rfl rfl ?_
  refine wq_getfield (v := .ref (b + 3)) rfl (sW_o0 hb) rfl ?_
  refine wq_virt (b := b + 3) (a := []) (rest := []) rfl rfl rfl rfl rfl (sW_o3 hb) ?_
  rw [sW_k]
  refine r_Kin_empty (sW_lk hb) ?_
  rw [← sW_k]
  show WP _ _ _ _ 14 [.ref b, .ref c, .int (nI acts), .long 0, .long 0] [] (sW b pre 0 0 (fz 0 nr 9) (fz 0 rt 9) (kE sc) wf ws bsz bop bbg ben suf)
  refine wq_aload_n rfl rfl ?_
  refine wq_getfield (v := .ref (b + 8)) rfl (sW_o0 hb) rfl ?_
  refine wq_virt (b := b + 8) (a := []) (rest := []) rfl rfl rfl rfl rfl (sW_o8 hb) ?_
  rw [sW_b]
  refine r_Bars_empty (sW_lb hb) ?_
  rw [← sW_b]
  show WP _ _ _ _ 21 [.ref b, .ref c, .int (nI acts), .long 0, .long 0] [] (sW b pre 0 0 (fz 0 nr 9) (fz 0 rt 9) (kE sc) wf ws 0 0 bbg ben suf)
  refine wq_iconst (v := nI 1) rfl (by decide) ?_
  refine wq_istore_n (lv' := [.ref b, .ref c, .int (nI acts), .int (nI 1), .long 0]) rfl rfl rfl ?_
  refine l_Sto_play hb hrn hac hav hc hc1 ht hf acts 0 (.long 0) _ _ _ _ _ _ _ _ _ _ _ [] (by omega) (fun i hi => absurd hi (Nat.not_lt_zero i)) ⟨rfl, rfl, fun p hp => if_pos hp, fun p hp => if_pos hp, fun p q hp _ => if_pos hp, rfl⟩ (BL_nil _ _) rfl hbv
