/-! the reference: backwards, clear, steadiest -/
theorem l_M_bw1 {d b : Nat} {pre : mH} {tn : Nat} {lt : Nat} {un : Nat} {kp : Nat} {ap : Nat} {wb : Nat} {tx : Nat → Nat} {sq : Nat → Nat} {pa : Nat → Nat} {ke : Nat → Nat} {wg : Nat → Nat} {we : Nat → Nat} {th : Nat} {pcs : Nat} {brs : Nat} {be : Nat → Nat} {po : Nat → Nat} {ro : Nat → Nat} {kf : Nat → Nat → Nat} {bg : Nat → Nat} {en : Nat → Nat} {Q : Option Value → mH → Prop} (hb : pre.length = b) {rn : Nat} (hs : sq 0 = rn) (hr : rn ≤ 40) (K : ∀ (to : Nat → Nat) (v2 : Value) (v3 : Value) , (∀ j, 1 ≤ j → j ≤ rn → to j = sq j) → WP (Rn mprog (d + 0)) k_M_backwards (some .int) Q 60 [.ref b, .int (nI (rn + 1)), v2, v3] [] (mR b pre tn lt un kp ap wb tx sq pa ke to wg we th pcs brs be po ro kf bg en)) : ∀ (m i : Nat) (to : Nat → Nat) (v2 : Value) (v3 : Value) , i + m = rn → (∀ j, 1 ≤ j → j ≤ i → to j = sq j) → WP (Rn mprog (d + 0)) k_M_backwards (some .int) Q 32 [.ref b, .int (nI (i + 1)), v2, v3] [] (mR b pre tn lt un kp ap wb tx sq pa ke to wg we th pcs brs be po ro kf bg en) := by
  intro m
  induction m with
  | zero =>
    intro i to v2 v3 hi hv
    have e : i = rn := by omega
    subst e
    refine wq_iload_n rfl rfl ?_
    refine wq_aload_n rfl rfl ?_
    refine wq_getfield (v := .ref (b + 2)) rfl (mS_o hb) rfl ?_
    refine wq_iconst (v := nI 0) rfl (by decide) ?_
    refine wn_iaload (g := sq) rfl (mS_a3 hb) (by omega) (by decide) ?_
    refine wn_ic_gt rfl (by omega) (by omega) (fun c39 => ?_) (fun c39 => absurd c39 (by omega))
    exact K to v2 v3 hv
  | succ m ih =>
    intro i to v2 v3 hi hv
    refine wq_iload_n rfl rfl ?_
    refine wq_aload_n rfl rfl ?_
    refine wq_getfield (v := .ref (b + 2)) rfl (mS_o hb) rfl ?_
    refine wq_iconst (v := nI 0) rfl (by decide) ?_
    refine wn_iaload (g := sq) rfl (mS_a3 hb) (by omega) (by decide) ?_
    refine wn_ic_gt rfl (by omega) (by omega) (fun c39 => absurd c39 (by omega)) (fun c39 => ?_)
    refine wq_aload_n rfl rfl ?_
    refine wq_getfield (v := .ref (b + 11)) rfl (mS_o hb) rfl ?_
    refine wq_iload_n rfl rfl ?_
    refine wq_aload_n rfl rfl ?_
    refine wq_getfield (v := .ref (b + 2)) rfl (mS_o hb) rfl ?_
    refine wq_iload_n rfl rfl ?_
    refine wn_iaload (g := sq) rfl (mS_a3 hb) (by omega) (by decide) ?_
    refine wn_iastore (g := to) (h' := mR b pre tn lt un kp ap wb tx sq pa ke (uN' to (i + 1) (sq (i + 1))) wg we th pcs brs be po ro kf bg en) rfl (mS_a17 hb) (by omega) (by decide) (mS_t17 hb) ?_
    refine wn_inc (lv' := [.ref b, .int (nI (i + 1 + 1)), v2, v3]) rfl rfl rfl ?_
    refine wq_goto rfl ?_
    exact ih (i + 1) _ _ _ (by omega) (fun j hj hj2 => if e : j = i + 1 then (by rw [e, uN_s]) else (by rw [uN_n e, hv j hj (by omega)]))
theorem iv_cd {ac : Nat} (h : AV ac) : (cdA ac / 100 < 2 → cdA (ivA ac) = cdN (1 - cdA ac / 100) (cdA ac / 10 % 10) (cdA ac % 10)) ∧ (2 ≤ cdA ac / 100 → cdA (ivA ac) = cdN (5 - cdA ac / 100) (cdA ac / 10 % 10) (cdA ac % 10)) := by
  have hk := AV_k h
  obtain ⟨c1, c2, c3, c4, c5⟩ := cdA_f h
  obtain ⟨x0, x1, x2, x3⟩ := xor1 hk
  have hA := h.2.1
  have hB := h.2.2.1
  unfold ivA
  refine ⟨fun q => ?_, fun q => ?_⟩
  · rw [← c2] at q ⊢
    rcases (by omega : ac >>> 8 = 0 ∨ ac >>> 8 = 1) with e | e
    · rw [x0 e, acN_cd (by decide) hA hB, e, ← c3]
      exact cdN_b (by decide)
    · rw [x1 e, acN_cd (by decide) hA hB, e, ← c3]
      exact cdN_b (by decide)
  · have c6 := c4 q
    rw [← c2] at q ⊢
    rcases (by omega : ac >>> 8 = 2 ∨ ac >>> 8 = 3) with e | e
    · rw [x2 e, acN_cd (by decide) hA hB, e, ← c3, ← c6]
    · rw [x3 e, acN_cd (by decide) hA hB, e, ← c3, ← c6]
theorem l_M_bw2 {d b : Nat} {pre : mH} {tn : Nat} {lt : Nat} {un : Nat} {kp : Nat} {ap : Nat} {wb : Nat} {tx : Nat → Nat} {pa : Nat → Nat} {ke : Nat → Nat} {to : Nat → Nat} {wg : Nat → Nat} {we : Nat → Nat} {th : Nat} {pcs : Nat} {brs : Nat} {be : Nat → Nat} {po : Nat → Nat} {ro : Nat → Nat} {kf : Nat → Nat → Nat} {bg : Nat → Nat} {en : Nat → Nat} {Q : Option Value → mH → Prop} (hb : pre.length = b) {rn : Nat} {ra : Nat → Nat} (hr : rn ≤ 40) (hav : ∀ i, i < rn → AV (ra i)) (hto : ∀ j, 1 ≤ j → j ≤ rn → to j = cdA (ra (j - 1))) (K : ∀ (sq : Nat → Nat) (v2 : Value) (v3 : Value) , (sq 0 = rn ∧ ∀ j, j < rn → sq (j + 1) = cdA (bwA ra rn j)) → WP (Rn mprog (d + 1)) k_M_backwards (some .int) Q 130 [.ref b, .int (nI (rn + 1)), v2, v3] [] (mR b pre tn lt un kp ap wb tx sq pa ke to wg we th pcs brs be po ro kf bg en)) : ∀ (m i : Nat) (sq : Nat → Nat) (v2 : Value) (v3 : Value) , i + m = rn → (sq 0 = rn ∧ ∀ j, j < i → sq (j + 1) = cdA (bwA ra rn j)) → WP (Rn mprog (d + 1)) k_M_backwards (some .int) Q 62 [.ref b, .int (nI (i + 1)), v2, v3] [] (mR b pre tn lt un kp ap wb tx sq pa ke to wg we th pcs brs be po ro kf bg en) := by
  intro m
  induction m with
  | zero =>
    intro i sq v2 v3 hi hv
    have e : i = rn := by omega
    subst e
    have hv0 := hv.1
    refine wq_iload_n rfl rfl ?_
    refine wq_aload_n rfl rfl ?_
    refine wq_getfield (v := .ref (b + 2)) rfl (mS_o hb) rfl ?_
    refine wq_iconst (v := nI 0) rfl (by decide) ?_
    refine wn_iaload (g := sq) rfl (mS_a3 hb) (by omega) (by decide) ?_
    refine wn_ic_gt rfl (by omega) (by omega) (fun c69 => ?_) (fun c69 => absurd c69 (by omega))
    exact K sq v2 v3 hv
  | succ m ih =>
    intro i sq v2 v3 hi hv
    have hv0 := hv.1
    have hto2 : to (sq 0 + 1 - (i + 1)) = cdA (ra (rn - 1 - i)) := by rw [hto _ (by omega) (by omega)]; congr 2; omega
    obtain ⟨q1, q2, q3, q4, q5⟩ := cdA_f (hav (rn - 1 - i) (by omega))
    have hci := iv_cd (hav (rn - 1 - i) (by omega))
    have q6 := (hav (rn - 1 - i) (by omega)).2.1
    rw [← hto2] at q1 q2 q3 q4 q5
    rw [q3] at q6
    refine wq_iload_n rfl rfl ?_
    refine wq_aload_n rfl rfl ?_
    refine wq_getfield (v := .ref (b + 2)) rfl (mS_o hb) rfl ?_
    refine wq_iconst (v := nI 0) rfl (by decide) ?_
    refine wn_iaload (g := sq) rfl (mS_a3 hb) (by omega) (by decide) ?_
    refine wn_ic_gt rfl (by omega) (by omega) (fun c69 => absurd c69 (by omega)) (fun c69 => ?_)
    refine wq_aload_n rfl rfl ?_
    refine wq_getfield (v := .ref (b + 11)) rfl (mS_o hb) rfl ?_
    refine wq_aload_n rfl rfl ?_
    refine wq_getfield (v := .ref (b + 2)) rfl (mS_o hb) rfl ?_
    refine wq_iconst (v := nI 0) rfl (by decide) ?_
    refine wn_iaload (g := sq) rfl (mS_a3 hb) (by omega) (by decide) ?_
    refine wq_iconst (v := nI 1) rfl (by decide) ?_
    refine wn_iadd rfl ?_
    refine wq_iload_n rfl rfl ?_
    refine wn_isub rfl (by omega) ?_
    refine wn_iaload (g := to) rfl (mS_a17 hb) (by omega) (by decide) ?_
    refine wq_istore_n (lv' := [.ref b, .int (nI (i + 1)), .int (nI (to (((sq 0) + 1) - (i + 1)))), v3]) rfl rfl rfl ?_
    refine wq_iload_n rfl rfl ?_
    refine wq_stat (a := [.int (nI (to (((sq 0) + 1) - (i + 1))))]) (rest := []) rfl rfl rfl rfl rfl ?_
    refine r_M_kindOf (by omega) ?_
    show WP _ _ _ _ 92 [.ref b, .int (nI (i + 1)), .int (nI (to (((sq 0) + 1) - (i + 1)))), v3] [.int (nI ((to (((sq 0) + 1) - (i + 1))) / 100))] (mR b pre tn lt un kp ap wb tx sq pa ke to wg we th pcs brs be po ro kf bg en)
    refine wq_istore_n (lv' := [.ref b, .int (nI (i + 1)), .int (nI (to (((sq 0) + 1) - (i + 1)))), .int (nI ((to (((sq 0) + 1) - (i + 1))) / 100))]) rfl rfl rfl ?_
    refine wq_aload_n rfl rfl ?_
    refine wq_getfield (v := .ref (b + 2)) rfl (mS_o hb) rfl ?_
    refine wq_iload_n rfl rfl ?_
    refine wq_iload_n rfl rfl ?_
    refine wq_iconst (v := nI 2) rfl (by decide) ?_
    refine wn_ic_ge rfl (by omega) (by omega) (fun c100 => ?_) (fun c100 => ?_)
    · skip
      refine wq_iconst (v := nI 5) rfl (by decide) ?_
      refine wq_iload_n rfl rfl ?_
      refine wn_isub rfl (by omega) ?_
      refine wq_iload_n rfl rfl ?_
      refine wq_stat (a := [.int (nI (to (((sq 0) + 1) - (i + 1))))]) (rest := [.int (nI (5 - ((to (((sq 0) + 1) - (i + 1))) / 100))), .int (nI (i + 1)), .ref (b + 2)]) rfl rfl rfl rfl rfl ?_
      refine r_M_oneOf (by omega) ?_
      show WP _ _ _ _ 116 [.ref b, .int (nI (i + 1)), .int (nI (to (((sq 0) + 1) - (i + 1)))), .int (nI ((to (((sq 0) + 1) - (i + 1))) / 100))] [.int (nI ((to (((sq 0) + 1) - (i + 1))) / 10 % 10)), .int (nI (5 - ((to (((sq 0) + 1) - (i + 1))) / 100))), .int (nI (i + 1)), .ref (b + 2)] (mR b pre tn lt un kp ap wb tx sq pa ke to wg we th pcs brs be po ro kf bg en)
      refine wq_iload_n rfl rfl ?_
      refine wq_stat (a := [.int (nI (to (((sq 0) + 1) - (i + 1))))]) (rest := [.int (nI ((to (((sq 0) + 1) - (i + 1))) / 10 % 10)), .int (nI (5 - ((to (((sq 0) + 1) - (i + 1))) / 100))), .int (nI (i + 1)), .ref (b + 2)]) rfl rfl rfl rfl rfl ?_
      refine r_M_otherOf (by omega) ?_
      show WP _ _ _ _ 120 [.ref b, .int (nI (i + 1)), .int (nI (to (((sq 0) + 1) - (i + 1)))), .int (nI ((to (((sq 0) + 1) - (i + 1))) / 100))] [.int (nI ((to (((sq 0) + 1) - (i + 1))) % 10)), .int (nI ((to (((sq 0) + 1) - (i + 1))) / 10 % 10)), .int (nI (5 - ((to (((sq 0) + 1) - (i + 1))) / 100))), .int (nI (i + 1)), .ref (b + 2)] (mR b pre tn lt un kp ap wb tx sq pa ke to wg we th pcs brs be po ro kf bg en)
      refine wq_stat (a := [.int (nI (5 - ((to (((sq 0) + 1) - (i + 1))) / 100))), .int (nI ((to (((sq 0) + 1) - (i + 1))) / 10 % 10)), .int (nI ((to (((sq 0) + 1) - (i + 1))) % 10))]) (rest := [.int (nI (i + 1)), .ref (b + 2)]) rfl rfl rfl rfl rfl ?_
      refine r_M_codeOf (by omega) q6 q5 ?_
      show WP _ _ _ _ 123 [.ref b, .int (nI (i + 1)), .int (nI (to (((sq 0) + 1) - (i + 1)))), .int (nI ((to (((sq 0) + 1) - (i + 1))) / 100))] [.int (nI (cdN (5 - ((to (((sq 0) + 1) - (i + 1))) / 100)) ((to (((sq 0) + 1) - (i + 1))) / 10 % 10) ((to (((sq 0) + 1) - (i + 1))) % 10))), .int (nI (i + 1)), .ref (b + 2)] (mR b pre tn lt un kp ap wb tx sq pa ke to wg we th pcs brs be po ro kf bg en)
      refine wn_iastore (g := sq) (h' := mR b pre tn lt un kp ap wb tx (uN' sq (i + 1) (cdN (5 - ((to (((sq 0) + 1) - (i + 1))) / 100)) ((to (((sq 0) + 1) - (i + 1))) / 10 % 10) ((to (((sq 0) + 1) - (i + 1))) % 10))) pa ke to wg we th pcs brs be po ro kf bg en) rfl (mS_a3 hb) (by omega) (by decide) (mS_t3 hb) ?_
      refine wn_inc (lv' := [.ref b, .int (nI (i + 1 + 1)), .int (nI (to (((sq 0) + 1) - (i + 1)))), .int (nI ((to (((sq 0) + 1) - (i + 1))) / 100))]) rfl rfl rfl ?_
      refine wq_goto rfl ?_
      refine ih (i + 1) _ _ _ (by omega) ⟨by rw [uN_n (by omega)]; exact hv.1, fun j hj => ?_⟩
      by_cases e : j = i
      · rw [e, uN_s]
        show _ = cdA (ivA (ra (rn - 1 - i)))
        rw [← hto2] at hci
        exact (hci.2 (by omega)).symm
      · rw [uN_n (by omega)]; exact hv.2 j (by omega)
    · skip
      refine wq_iconst (v := nI 1) rfl (by decide) ?_
      refine wq_iload_n rfl rfl ?_
      refine wn_isub rfl (by omega) ?_
      refine wq_goto rfl ?_
      refine wq_iload_n rfl rfl ?_
      refine wq_stat (a := [.int (nI (to (((sq 0) + 1) - (i + 1))))]) (rest := [.int (nI (1 - ((to (((sq 0) + 1) - (i + 1))) / 100))), .int (nI (i + 1)), .ref (b + 2)]) rfl rfl rfl rfl rfl ?_
      refine r_M_oneOf (by omega) ?_
      show WP _ _ _ _ 116 [.ref b, .int (nI (i + 1)), .int (nI (to (((sq 0) + 1) - (i + 1)))), .int (nI ((to (((sq 0) + 1) - (i + 1))) / 100))] [.int (nI ((to (((sq 0) + 1) - (i + 1))) / 10 % 10)), .int (nI (1 - ((to (((sq 0) + 1) - (i + 1))) / 100))), .int (nI (i + 1)), .ref (b + 2)] (mR b pre tn lt un kp ap wb tx sq pa ke to wg we th pcs brs be po ro kf bg en)
      refine wq_iload_n rfl rfl ?_
      refine wq_stat (a := [.int (nI (to (((sq 0) + 1) - (i + 1))))]) (rest := [.int (nI ((to (((sq 0) + 1) - (i + 1))) / 10 % 10)), .int (nI (1 - ((to (((sq 0) + 1) - (i + 1))) / 100))), .int (nI (i + 1)), .ref (b + 2)]) rfl rfl rfl rfl rfl ?_
      refine r_M_otherOf (by omega) ?_
      show WP _ _ _ _ 120 [.ref b, .int (nI (i + 1)), .int (nI (to (((sq 0) + 1) - (i + 1)))), .int (nI ((to (((sq 0) + 1) - (i + 1))) / 100))] [.int (nI ((to (((sq 0) + 1) - (i + 1))) % 10)), .int (nI ((to (((sq 0) + 1) - (i + 1))) / 10 % 10)), .int (nI (1 - ((to (((sq 0) + 1) - (i + 1))) / 100))), .int (nI (i + 1)), .ref (b + 2)] (mR b pre tn lt un kp ap wb tx sq pa ke to wg we th pcs brs be po ro kf bg en)
      refine wq_stat (a := [.int (nI (1 - ((to (((sq 0) + 1) - (i + 1))) / 100))), .int (nI ((to (((sq 0) + 1) - (i + 1))) / 10 % 10)), .int (nI ((to (((sq 0) + 1) - (i + 1))) % 10))]) (rest := [.int (nI (i + 1)), .ref (b + 2)]) rfl rfl rfl rfl rfl ?_
      refine r_M_codeOf (by omega) q6 q5 ?_
      show WP _ _ _ _ 123 [.ref b, .int (nI (i + 1)), .int (nI (to (((sq 0) + 1) - (i + 1)))), .int (nI ((to (((sq 0) + 1) - (i + 1))) / 100))] [.int (nI (cdN (1 - ((to (((sq 0) + 1) - (i + 1))) / 100)) ((to (((sq 0) + 1) - (i + 1))) / 10 % 10) ((to (((sq 0) + 1) - (i + 1))) % 10))), .int (nI (i + 1)), .ref (b + 2)] (mR b pre tn lt un kp ap wb tx sq pa ke to wg we th pcs brs be po ro kf bg en)
      refine wn_iastore (g := sq) (h' := mR b pre tn lt un kp ap wb tx (uN' sq (i + 1) (cdN (1 - ((to (((sq 0) + 1) - (i + 1))) / 100)) ((to (((sq 0) + 1) - (i + 1))) / 10 % 10) ((to (((sq 0) + 1) - (i + 1))) % 10))) pa ke to wg we th pcs brs be po ro kf bg en) rfl (mS_a3 hb) (by omega) (by decide) (mS_t3 hb) ?_
      refine wn_inc (lv' := [.ref b, .int (nI (i + 1 + 1)), .int (nI (to (((sq 0) + 1) - (i + 1)))), .int (nI ((to (((sq 0) + 1) - (i + 1))) / 100))]) rfl rfl rfl ?_
      refine wq_goto rfl ?_
      refine ih (i + 1) _ _ _ (by omega) ⟨by rw [uN_n (by omega)]; exact hv.1, fun j hj => ?_⟩
      by_cases e : j = i
      · rw [e, uN_s]
        show _ = cdA (ivA (ra (rn - 1 - i)))
        rw [← hto2] at hci
        exact (hci.1 (by omega)).symm
      · rw [uN_n (by omega)]; exact hv.2 j (by omega)
theorem R_backwards {d b : Nat} {pre : mH} {A : AS} {h : mH} {Q : Option Value → mH → Prop} (hb : pre.length = b) (hR : RIA b pre A h)  (hQ : ∀ h', RIA b pre (f_backw A ).2 h' → Q (some (.int (f_backw A ).1)) h') : Rn mprog (d + 7) n_M_backwards [.ref b] h Q := by
  obtain ⟨tl, ta, ⟨rn, ra⟩, un, ua, kn, ka⟩ := A
  obtain ⟨tn, ap, wb, tx, sq, pa, ke, to, wg, we, th, pcs, brs, be, po, ro, kf, bg, en, rfl, hI, hSB⟩ := hR
  have hI0 := hI
  obtain ⟨hl, htx, hV, hRR, hu, hU, hk, hK⟩ := hI
  dsimp only at hl htx hV hRR hu hU hk hK
  have hs0 : sq 0 = rn := hRR.1
  have hrn : rn ≤ 40 := hV.1
  refine Rn.in rfl rfl rfl ?_
  show WP _ _ _ _ 0 [.ref b, .long 0, .long 0, .long 0] [] (mR b pre tn tl un kn ap wb tx sq pa ke to wg we th pcs brs be po ro kf bg en)
  refine wq_aload_n rfl rfl ?_
  refine wq_iconst (v := nI 0) rfl (by decide) ?_
  refine wq_putfield (h' := mR b pre 0 tl un kn ap wb tx sq pa ke to wg we th pcs brs be po ro kf bg en) rfl (mS_o hb) rfl (mS_s0 hb) ?_
  refine wq_aload_n rfl rfl ?_
  refine wq_aload_n rfl rfl ?_
  refine wq_getfield (v := .ref (b + 2)) rfl (mS_o hb) rfl ?_
  refine wq_iconst (v := nI 0) rfl (by decide) ?_
  refine wn_iaload (g := sq) rfl (mS_a3 hb) (by omega) (by decide) ?_
  refine wq_virt (b := b) (a := [.int (nI (sq 0))]) (rest := []) rfl rfl rfl rfl rfl (mS_o hb) ?_
  rw [hs0]
  refine r_R_runs hb hSB hV hRR (k := rn) (by omega) ?_
  intro th1 pcs1 brs1 be1 po1 ro1 kf1 bg1 en1 hS hSB1
  have hTV := stP (k := rn) hV (by omega)
  have hth1 : th1 < 512 := by rw [hS.1]; exact hTV.1.1
  have hbe1 : ∀ p, p < 9 → be1 p < 512 := fun p hp => by rw [hS.2.1 p hp]; exact hTV.1.2.1.1 p hp
  have hpc1 : pcs1 < 512 := hS.2.2.1.1
  have hpo1 : ∀ p, p < 9 → po1 p < 9 := hS.2.2.1.2.1
  have hed := sim_ed hTV hS.2.1
  have hnp := npT_eq hTV.1.2.1 hS.2.2.1
  show WP _ _ _ _ 15 [.ref b, .long 0, .long 0, .long 0] [.int (nI 1)] (mR b pre 0 tl un kn ap wb tx sq pa ke to wg we th1 pcs1 brs1 be1 po1 ro1 kf1 bg1 en1)
  refine wq_pop rfl rfl ?_
  refine wq_aload_n rfl rfl ?_
  refine wq_getfield (v := .int (nI th1)) rfl (mS_o hb) rfl ?_
  refine wn_if_eq rfl (by omega) (fun c20 => ?_) (fun c20 => ?_)
  · skip
    refine wq_aload_n rfl rfl ?_
    refine wq_virt (b := b) (a := []) (rest := []) rfl rfl rfl rfl rfl (mS_o hb) ?_
    refine r_M_notes hb hu ?_
    show WP _ _ _ _ 30 [.ref b, .long 0, .long 0, .long 0] [] (mR b pre 0 tl (unN un) kn ap wb tx sq (paN un pa sq) ke to wg we th1 pcs1 brs1 be1 po1 ro1 kf1 bg1 en1)
    refine wq_iconst (v := nI 1) rfl (by decide) ?_
    refine wq_istore_n (lv' := [.ref b, .int (nI 1), .long 0, .long 0]) rfl rfl rfl ?_
    refine l_M_bw1 hb hs0 hrn ?_ rn 0 _ _ _ (by omega) (fun j h1 h2 => absurd h1 (by omega))
    intro to' v2 v3 hto'
    show WP _ _ _ _ 60 [.ref b, .int (nI (rn + 1)), v2, v3] [] (mR b pre 0 tl (unN un) kn ap wb tx sq (paN un pa sq) ke to' wg we th1 pcs1 brs1 be1 po1 ro1 kf1 bg1 en1)
    refine wq_iconst (v := nI 1) rfl (by decide) ?_
    refine wq_istore_n (lv' := [.ref b, .int (nI 1), v2, v3]) rfl rfl rfl ?_
    refine l_M_bw2 hb hrn hV.2.1 (fun j h1 h2 => by rw [hto' j h1 h2, ← hRR.2 (j - 1) (by show j - 1 < rn; omega)]; congr 1; omega) ?_ rn 0 _ _ _ (by omega) ⟨hs0, fun j hj => absurd hj (Nat.not_lt_zero j)⟩
    intro sq' v2' v3' hsq'
    show WP _ _ _ _ 130 [.ref b, .int (nI (rn + 1)), v2', v3'] [] (mR b pre 0 tl (unN un) kn ap wb tx sq' (paN un pa sq) ke to' wg we th1 pcs1 brs1 be1 po1 ro1 kf1 bg1 en1)
    refine wq_aload_n rfl rfl ?_
    refine wq_getfield (v := .ref (b + 2)) rfl (mS_o hb) rfl ?_
    refine wq_iconst (v := nI 0) rfl (by decide) ?_
    refine wn_iaload (g := sq') rfl (mS_a3 hb) (by omega) (by decide) ?_
    refine wq_iret rfl trivial ?_
    have h0 : (stR ra rn).1 = 0 := by rw [← hS.1]; exact c20
    rw [hsq'.1]
    exact fin_ (A' := sR (nT (tl, ta, (rn, ra), un, ua, kn, ka)) (rn, bwA ra rn)) hQ (by unfold f_backw; (try dsimp only); rw [if_pos (show (sT (tl, ta, (rn, ra), un, ua, kn, ka)).1 = 0 from h0)]) ⟨_, _, _, _, _, _, _, _, _, _, _, _, _, _, _, _, _, _, _, rfl, (RI_row (RI_note hI0) (bw_RV hV h0) ⟨hsq'.1, fun i hi => hsq'.2 i hi⟩), hSB1⟩
  · skip
    refine wq_bipush (v := (-2)) rfl (by decide) ?_
    refine wq_iret rfl trivial ?_
    have hne : ¬ (sT (tl, ta, (rn, ra), un, ua, kn, ka)).1 = 0 := by have q := c20; rw [hS.1] at q; exact q
    exact fin_ (A' := (tl, ta, (rn, ra), un, ua, kn, ka)) hQ (by unfold f_backw; (try dsimp only); rw [if_neg hne]) ⟨_, _, _, _, _, _, _, _, _, _, _, _, _, _, _, _, _, _, _, rfl, hI0, hSB1⟩
theorem cl1_s (nr : Nat → Nat) (a : Nat) (r : Rw) (i : Nat) : cl1 nr a r (i + 1) = if (nr a).testBit (a + 1 + i) = true then rAd (cl1 nr a r i) (acN 3 a (a + 1 + i)) else cl1 nr a r i := rfl
theorem cl3_s (th : Nat) (r : Rw) (i : Nat) : cl3 th r (i + 1) = if th.testBit i = true then rAd (cl3 th r i) (acN 1 i 0) else cl3 th r i := rfl
theorem l_M_clI {d b : Nat} {pre : mH} {tn : Nat} {lt : Nat} {un : Nat} {kp : Nat} {ap : Nat} {wb : Nat} {tx : Nat → Nat} {pa : Nat → Nat} {ke : Nat → Nat} {to : Nat → Nat} {wg : Nat → Nat} {we : Nat → Nat} {th : Nat} {pcs : Nat} {brs : Nat} {be : Nat → Nat} {po : Nat → Nat} {ro : Nat → Nat} {kf : Nat → Nat → Nat} {bg : Nat → Nat} {en : Nat → Nat} {Q : Option Value → mH → Prop} (hb : pre.length = b) {τ : TT} {n a : Nat} {r : Rw} {v1 : Value} (hn : n ≤ 40) (ha : a < 9) (hC : CE τ n a (a + 1) r) (hbe : ∀ p, p < 9 → be p = τ.2.2.1 p) (hb5 : be a < 512) (K : ∀ sq, RR sq (cl1 τ.2.2.1 a r (8 - a)) → WP (Rn mprog (d + 1)) k_M_clear (some .int) Q 123 [.ref b, v1, .int (nI a), .int (nI (a + 1 + (8 - a)))] [] (mR b pre tn lt un kp ap wb tx sq pa ke to wg we th pcs brs be po ro kf bg en)) : ∀ (m i : Nat) (sq : Nat → Nat), i + m = 8 - a → RR sq (cl1 τ.2.2.1 a r i) → WP (Rn mprog (d + 1)) k_M_clear (some .int) Q 71 [.ref b, v1, .int (nI a), .int (nI (a + 1 + i))] [] (mR b pre tn lt un kp ap wb tx sq pa ke to wg we th pcs brs be po ro kf bg en) := by
  intro m
  induction m with
  | zero =>
    intro i sq hi hv
    have e : i = 8 - a := by omega
    rw [← e] at K
    refine wq_iload_n rfl rfl ?_
    refine wq_bipush (v := nI 9) rfl (by decide) ?_
    refine wn_ic_ge rfl (by omega) (by omega) (fun c74 => ?_) (fun c74 => absurd c74 (by omega))
    exact K sq hv
  | succ m ih =>
    intro i sq hi hv
    have hCi := CE_1 hn ha hC i (by omega)
    have hst := CE_step hn (by omega) hCi
    have hv0 : sq 0 = (cl1 τ.2.2.1 a r i).1 := hv.1
    have hbea := hbe a ha
    refine wq_iload_n rfl rfl ?_
    refine wq_bipush (v := nI 9) rfl (by decide) ?_
    refine wn_ic_ge rfl (by omega) (by omega) (fun c74 => absurd c74 (by omega)) (fun c74 => ?_)
    refine wq_aload_n rfl rfl ?_
    refine wq_getfield (v := .ref (b + 5)) rfl (mS_o hb) rfl ?_
    refine wq_iload_n rfl rfl ?_
    refine wn_iaload (g := be) rfl (mS_a9 hb) (by omega) (by decide) ?_
    refine wq_iload_n rfl rfl ?_
    refine wq_stat (a := [.int (nI (be a)), .int (nI (a + 1 + i))]) (rest := []) rfl rfl rfl rfl rfl ?_
    refine r_M_has (by omega) (by omega) (fun c84 => ?_) (fun c84 => ?_)
    · skip
      show WP _ _ _ _ 87 [.ref b, v1, .int (nI a), .int (nI (a + 1 + i))] [.int (nI 1)] (mR b pre tn lt un kp ap wb tx sq pa ke to wg we th pcs brs be po ro kf bg en)
      have c84' := c84
      rw [hbea] at c84'
      refine wq_if_eq rfl (fun c => absurd c (by decide)) (fun _ => ?_)
      have h40 := (hst.1 c84').1
      refine wq_aload_n rfl rfl ?_
      refine wq_getfield (v := .ref (b + 2)) rfl (mS_o hb) rfl ?_
      refine wq_iconst (v := nI 0) rfl (by decide) ?_
      refine wq_dup2 rfl rfl rfl ?_
      refine wn_iaload (g := sq) rfl (mS_a3 hb) (by omega) (by decide) ?_
      refine wq_iconst (v := nI 1) rfl (by decide) ?_
      refine wn_iadd rfl ?_
      refine wn_iastore (g := sq) (h' := mR b pre tn lt un kp ap wb tx (uN' sq 0 ((sq 0) + 1)) pa ke to wg we th pcs brs be po ro kf bg en) rfl (mS_a3 hb) (by omega) (by decide) (mS_t3 hb) ?_
      refine wq_aload_n rfl rfl ?_
      refine wq_getfield (v := .ref (b + 2)) rfl (mS_o hb) rfl ?_
      refine wq_aload_n rfl rfl ?_
      refine wq_getfield (v := .ref (b + 2)) rfl (mS_o hb) rfl ?_
      refine wq_iconst (v := nI 0) rfl (by decide) ?_
      refine wn_iaload (g := (uN' sq 0 ((sq 0) + 1))) rfl (mS_a3 hb) (by omega) (by decide) ?_
      refine wq_iconst (v := nI 3) rfl (by decide) ?_
      refine wq_iload_n rfl rfl ?_
      refine wq_iload_n rfl rfl ?_
      refine wq_stat (a := [.int (nI 3), .int (nI a), .int (nI (a + 1 + i))]) (rest := [.int (nI (((uN' sq 0 ((sq 0) + 1))) 0)), .ref (b + 2)]) rfl rfl rfl rfl rfl ?_
      refine r_M_codeOf (by decide) (by omega) (by omega) ?_
      show WP _ _ _ _ 116 [.ref b, v1, .int (nI a), .int (nI (a + 1 + i))] [.int (nI (cdN 3 a (a + 1 + i))), .int (nI (((uN' sq 0 ((sq 0) + 1))) 0)), .ref (b + 2)] (mR b pre tn lt un kp ap wb tx (uN' sq 0 ((sq 0) + 1)) pa ke to wg we th pcs brs be po ro kf bg en)
      refine wn_iastore (g := (uN' sq 0 ((sq 0) + 1))) (h' := mR b pre tn lt un kp ap wb tx (uN' ((uN' sq 0 ((sq 0) + 1))) (((uN' sq 0 ((sq 0) + 1))) 0) (cdN 3 a (a + 1 + i))) pa ke to wg we th pcs brs be po ro kf bg en) rfl (mS_a3 hb) (by rw [uN_s]; omega) (by decide) (mS_t3 hb) ?_
      refine wn_inc (lv' := [.ref b, v1, .int (nI a), .int (nI (a + 1 + i + 1))]) rfl rfl rfl ?_
      refine wq_goto rfl ?_
      refine ih (i + 1) _ (by omega) ?_
      rw [cl1_s, if_pos c84']
      exact RR_add (rn := (cl1 τ.2.2.1 a r i).1) (ra := (cl1 τ.2.2.1 a r i).2) hv (acN_cd (by decide) (by omega) (by omega)) rfl
    · skip
      show WP _ _ _ _ 87 [.ref b, v1, .int (nI a), .int (nI (a + 1 + i))] [.int (nI 0)] (mR b pre tn lt un kp ap wb tx sq pa ke to wg we th pcs brs be po ro kf bg en)
      have c84' := c84
      rw [hbea] at c84'
      refine wq_if_eq rfl (fun _ => ?_) (fun c => absurd c (by decide))
      refine wn_inc (lv' := [.ref b, v1, .int (nI a), .int (nI (a + 1 + i + 1))]) rfl rfl rfl ?_
      refine wq_goto rfl ?_
      refine ih (i + 1) _ (by omega) ?_
      rw [cl1_s, if_neg (by rw [c84']; decide)]
      exact hv
theorem l_M_clO {d b : Nat} {pre : mH} {tn : Nat} {lt : Nat} {un : Nat} {kp : Nat} {ap : Nat} {wb : Nat} {tx : Nat → Nat} {pa : Nat → Nat} {ke : Nat → Nat} {to : Nat → Nat} {wg : Nat → Nat} {we : Nat → Nat} {th : Nat} {pcs : Nat} {brs : Nat} {be : Nat → Nat} {po : Nat → Nat} {ro : Nat → Nat} {kf : Nat → Nat → Nat} {bg : Nat → Nat} {en : Nat → Nat} {Q : Option Value → mH → Prop} (hb : pre.length = b) {τ : TT} {n : Nat} {r : Rw} {v1 : Value} (hn : n ≤ 40) (hC : CE τ n 0 1 r) (hbe : ∀ p, p < 9 → be p = τ.2.2.1 p) (hb5 : ∀ p, p < 9 → be p < 512) (K : ∀ sq v3, RR sq (cl2 τ.2.2.1 r 9) → WP (Rn mprog (d + 1)) k_M_clear (some .int) Q 129 [.ref b, v1, .int (nI 9), v3] [] (mR b pre tn lt un kp ap wb tx sq pa ke to wg we th pcs brs be po ro kf bg en)) : ∀ (m i : Nat) (sq : Nat → Nat) (v3 : Value), i + m = 9 → RR sq (cl2 τ.2.2.1 r i) → WP (Rn mprog (d + 1)) k_M_clear (some .int) Q 61 [.ref b, v1, .int (nI i), v3] [] (mR b pre tn lt un kp ap wb tx sq pa ke to wg we th pcs brs be po ro kf bg en) := by
  intro m
  induction m with
  | zero =>
    intro i sq v3 hi hv
    have e : i = 9 := by omega
    subst e
    refine wq_iload_n rfl rfl ?_
    refine wq_bipush (v := nI 9) rfl (by decide) ?_
    refine wq_ic_ge rfl (fun _ => ?_) (fun c => absurd c (by decide))
    exact K sq _ hv
  | succ m ih =>
    intro i sq v3 hi hv
    refine wq_iload_n rfl rfl ?_
    refine wq_bipush (v := nI 9) rfl (by decide) ?_
    refine wn_ic_ge rfl (by omega) (by omega) (fun c64 => absurd c64 (by omega)) (fun c64 => ?_)
    refine wq_iload_n rfl rfl ?_
    refine wq_iconst (v := nI 1) rfl (by decide) ?_
    refine wn_iadd rfl ?_
    refine wq_istore_n (lv' := [.ref b, v1, .int (nI i), .int (nI (i + 1))]) rfl rfl rfl ?_
    refine l_M_clI hb (a := i) hn (by omega) (CE_2 hn hC i (by omega)) hbe (hb5 i (by omega)) ?_ (8 - i) 0 _ (by omega) hv
    intro sq' hsq'
    show WP _ _ _ _ 123 [.ref b, v1, .int (nI i), .int (nI (i + 1 + (8 - i)))] [] (mR b pre tn lt un kp ap wb tx sq' pa ke to wg we th pcs brs be po ro kf bg en)
    refine wn_inc (lv' := [.ref b, v1, .int (nI (i + 1)), .int (nI (i + 1 + (8 - i)))]) rfl rfl rfl ?_
    refine wq_goto rfl ?_
    exact ih (i + 1) _ _ (by omega) hsq'
theorem l_M_clP {d b : Nat} {pre : mH} {tn : Nat} {lt : Nat} {un : Nat} {kp : Nat} {ap : Nat} {wb : Nat} {tx : Nat → Nat} {pa : Nat → Nat} {ke : Nat → Nat} {to : Nat → Nat} {wg : Nat → Nat} {we : Nat → Nat} {th : Nat} {pcs : Nat} {brs : Nat} {be : Nat → Nat} {po : Nat → Nat} {ro : Nat → Nat} {kf : Nat → Nat → Nat} {bg : Nat → Nat} {en : Nat → Nat} {Q : Option Value → mH → Prop} (hb : pre.length = b) {n : Nat} {r : Rw} {v1 v3 : Value} (hn : n ≤ 40) (hth : th < 512) (hC : CP th n 0 r) (K : ∀ (sq : Nat → Nat) , RR sq (cl3 th r 9) → WP (Rn mprog (d + 1)) k_M_clear (some .int) Q 181 [.ref b, v1, .int (nI 9), v3] [] (mR b pre tn lt un kp ap wb tx sq pa ke to wg we th pcs brs be po ro kf bg en)) : ∀ (m i : Nat) (sq : Nat → Nat) , i + m = 9 → RR sq (cl3 th r i) → WP (Rn mprog (d + 1)) k_M_clear (some .int) Q 131 [.ref b, v1, .int (nI i), v3] [] (mR b pre tn lt un kp ap wb tx sq pa ke to wg we th pcs brs be po ro kf bg en) := by
  intro m
  induction m with
  | zero =>
    intro i sq hi hv
    have e : i = 9 := by omega
    subst e
    refine wq_iload_n rfl rfl ?_
    refine wq_bipush (v := nI 9) rfl (by decide) ?_
    refine wq_ic_ge rfl (fun _ => ?_) (fun c => absurd c (by decide))
    exact K sq hv
  | succ m ih =>
    intro i sq hi hv
    have hst := CP_step hn (by omega) (CP_i hn hC i (by omega))
    have hv0 : sq 0 = (cl3 th r i).1 := hv.1
    refine wq_iload_n rfl rfl ?_
    refine wq_bipush (v := nI 9) rfl (by decide) ?_
    refine wn_ic_ge rfl (by omega) (by omega) (fun c134 => absurd c134 (by omega)) (fun c134 => ?_)
    refine wq_aload_n rfl rfl ?_
    refine wq_getfield (v := .int (nI th)) rfl (mS_o hb) rfl ?_
    refine wq_iload_n rfl rfl ?_
    refine wq_stat (a := [.int (nI th), .int (nI i)]) (rest := []) rfl rfl rfl rfl rfl ?_
    refine r_M_has (by omega) (by omega) (fun c142 => ?_) (fun c142 => ?_)
    · skip
      show WP _ _ _ _ 145 [.ref b, v1, .int (nI i), v3] [.int (nI 1)] (mR b pre tn lt un kp ap wb tx sq pa ke to wg we th pcs brs be po ro kf bg en)
      refine wq_if_eq rfl (fun c => absurd c (by decide)) (fun _ => ?_)
      have h40 := (hst.1 c142).1
      refine wq_aload_n rfl rfl ?_
      refine wq_getfield (v := .ref (b + 2)) rfl (mS_o hb) rfl ?_
      refine wq_iconst (v := nI 0) rfl (by decide) ?_
      refine wq_dup2 rfl rfl rfl ?_
      refine wn_iaload (g := sq) rfl (mS_a3 hb) (by omega) (by decide) ?_
      refine wq_iconst (v := nI 1) rfl (by decide) ?_
      refine wn_iadd rfl ?_
      refine wn_iastore (g := sq) (h' := mR b pre tn lt un kp ap wb tx (uN' sq 0 ((sq 0) + 1)) pa ke to wg we th pcs brs be po ro kf bg en) rfl (mS_a3 hb) (by omega) (by decide) (mS_t3 hb) ?_
      refine wq_aload_n rfl rfl ?_
      refine wq_getfield (v := .ref (b + 2)) rfl (mS_o hb) rfl ?_
      refine wq_aload_n rfl rfl ?_
      refine wq_getfield (v := .ref (b + 2)) rfl (mS_o hb) rfl ?_
      refine wq_iconst (v := nI 0) rfl (by decide) ?_
      refine wn_iaload (g := (uN' sq 0 ((sq 0) + 1))) rfl (mS_a3 hb) (by omega) (by decide) ?_
      refine wq_iconst (v := nI 1) rfl (by decide) ?_
      refine wq_iload_n rfl rfl ?_
      refine wq_iconst (v := nI 0) rfl (by decide) ?_
      refine wq_stat (a := [.int (nI 1), .int (nI i), .int (nI 0)]) (rest := [.int (nI (((uN' sq 0 ((sq 0) + 1))) 0)), .ref (b + 2)]) rfl rfl rfl rfl rfl ?_
      refine r_M_codeOf (by decide) (by omega) (by omega) ?_
      show WP _ _ _ _ 174 [.ref b, v1, .int (nI i), v3] [.int (nI (cdN 1 i 0)), .int (nI (((uN' sq 0 ((sq 0) + 1))) 0)), .ref (b + 2)] (mR b pre tn lt un kp ap wb tx (uN' sq 0 ((sq 0) + 1)) pa ke to wg we th pcs brs be po ro kf bg en)
      refine wn_iastore (g := (uN' sq 0 ((sq 0) + 1))) (h' := mR b pre tn lt un kp ap wb tx (uN' ((uN' sq 0 ((sq 0) + 1))) (((uN' sq 0 ((sq 0) + 1))) 0) (cdN 1 i 0)) pa ke to wg we th pcs brs be po ro kf bg en) rfl (mS_a3 hb) (by rw [uN_s]; omega) (by decide) (mS_t3 hb) ?_
      refine wn_inc (lv' := [.ref b, v1, .int (nI (i + 1)), v3]) rfl rfl rfl ?_
      refine wq_goto rfl ?_
      refine ih (i + 1) _ (by omega) ?_
      rw [cl3_s, if_pos c142]
      exact RR_add (rn := (cl3 th r i).1) (ra := (cl3 th r i).2) hv (acN_cd (by decide) (by omega) (by omega)) rfl
    · skip
      show WP _ _ _ _ 145 [.ref b, v1, .int (nI i), v3] [.int (nI 0)] (mR b pre tn lt un kp ap wb tx sq pa ke to wg we th pcs brs be po ro kf bg en)
      refine wq_if_eq rfl (fun _ => ?_) (fun c => absurd c (by decide))
      refine wn_inc (lv' := [.ref b, v1, .int (nI (i + 1)), v3]) rfl rfl rfl ?_
      refine wq_goto rfl ?_
      refine ih (i + 1) _ (by omega) ?_
      rw [cl3_s, if_neg (by rw [c142]; decide)]
      exact hv
theorem R_clear {d b : Nat} {pre : mH} {A : AS} {h : mH} {Q : Option Value → mH → Prop} (hb : pre.length = b) (hR : RIA b pre A h)  (hQ : ∀ h', RIA b pre (f_clear A ).2 h' → Q (some (.int (f_clear A ).1)) h') : Rn mprog (d + 7) n_M_clear [.ref b] h Q := by
  obtain ⟨tl, ta, ⟨rn, ra⟩, un, ua, kn, ka⟩ := A
  obtain ⟨tn, ap, wb, tx, sq, pa, ke, to, wg, we, th, pcs, brs, be, po, ro, kf, bg, en, rfl, hI, hSB⟩ := hR
  have hI0 := hI
  obtain ⟨hl, htx, hV, hRR, hu, hU, hk, hK⟩ := hI
  dsimp only at hl htx hV hRR hu hU hk hK
  have hs0 : sq 0 = rn := hRR.1
  have hrn : rn ≤ 40 := hV.1
  refine Rn.in rfl rfl rfl ?_
  show WP _ _ _ _ 0 [.ref b, .long 0, .long 0, .long 0] [] (mR b pre tn tl un kn ap wb tx sq pa ke to wg we th pcs brs be po ro kf bg en)
  refine wq_aload_n rfl rfl ?_
  refine wq_iconst (v := nI 0) rfl (by decide) ?_
  refine wq_putfield (h' := mR b pre 0 tl un kn ap wb tx sq pa ke to wg we th pcs brs be po ro kf bg en) rfl (mS_o hb) rfl (mS_s0 hb) ?_
  refine wq_aload_n rfl rfl ?_
  refine wq_aload_n rfl rfl ?_
  refine wq_getfield (v := .ref (b + 2)) rfl (mS_o hb) rfl ?_
  refine wq_iconst (v := nI 0) rfl (by decide) ?_
  refine wn_iaload (g := sq) rfl (mS_a3 hb) (by omega) (by decide) ?_
  refine wq_virt (b := b) (a := [.int (nI (sq 0))]) (rest := []) rfl rfl rfl rfl rfl (mS_o hb) ?_
  rw [hs0]
  refine r_R_runs hb hSB hV hRR (k := rn) (by omega) ?_
  intro th1 pcs1 brs1 be1 po1 ro1 kf1 bg1 en1 hS hSB1
  have hTV := stP (k := rn) hV (by omega)
  have hth1 : th1 < 512 := by rw [hS.1]; exact hTV.1.1
  have hbe1 : ∀ p, p < 9 → be1 p < 512 := fun p hp => by rw [hS.2.1 p hp]; exact hTV.1.2.1.1 p hp
  have hpc1 : pcs1 < 512 := hS.2.2.1.1
  have hpo1 : ∀ p, p < 9 → po1 p < 9 := hS.2.2.1.2.1
  have hed := sim_ed hTV hS.2.1
  have hnp := npT_eq hTV.1.2.1 hS.2.2.1
  show WP _ _ _ _ 15 [.ref b, .long 0, .long 0, .long 0] [.int (nI 1)] (mR b pre 0 tl un kn ap wb tx sq pa ke to wg we th1 pcs1 brs1 be1 po1 ro1 kf1 bg1 en1)
  refine wq_pop rfl rfl ?_
  refine wq_aload_n rfl rfl ?_
  refine wq_getfield (v := .int (nI th1)) rfl (mS_o hb) rfl ?_
  refine wn_if_ne rfl (by omega) (fun c20 => ?_) (fun c20 => ?_)
  · skip
    refine wq_aload_n rfl rfl ?_
    refine wq_virt (b := b) (a := []) (rest := []) rfl rfl rfl rfl rfl (mS_o hb) ?_
    refine r_M_edges hb hbe1 ?_
    show WP _ _ _ _ 30 [.ref b, .long 0, .long 0, .long 0] [.int (nI (esum be1 9 / 2))] (mR b pre 0 tl un kn ap wb tx sq pa ke to wg we th1 pcs1 brs1 be1 po1 ro1 kf1 bg1 en1)
    have hes := esum_le be1 9
    have hpp := popc_le th1 9
    refine wq_aload_n rfl rfl ?_
    refine wq_getfield (v := .int (nI th1)) rfl (mS_o hb) rfl ?_
    refine wq_stat (a := [.int (nI th1)]) (rest := [.int (nI (esum be1 9 / 2))]) rfl rfl rfl rfl rfl ?_
    refine r_M_bits (by omega) ?_
    show WP _ _ _ _ 37 [.ref b, .long 0, .long 0, .long 0] [.int (nI (popc th1 9)), .int (nI (esum be1 9 / 2))] (mR b pre 0 tl un kn ap wb tx sq pa ke to wg we th1 pcs1 brs1 be1 po1 ro1 kf1 bg1 en1)
    refine wn_iadd rfl ?_
    refine wq_istore_n (lv' := [.ref b, .int (nI ((esum be1 9 / 2) + (popc th1 9))), .long 0, .long 0]) rfl rfl rfl ?_
    refine wq_aload_n rfl rfl ?_
    refine wq_getfield (v := .ref (b + 2)) rfl (mS_o hb) rfl ?_
    refine wq_iconst (v := nI 0) rfl (by decide) ?_
    refine wn_iaload (g := sq) rfl (mS_a3 hb) (by omega) (by decide) ?_
    refine wq_iload_n rfl rfl ?_
    refine wn_iadd rfl ?_
    refine wq_bipush (v := nI 40) rfl (by decide) ?_
    refine wn_ic_le rfl (by omega) (by omega) (fun c49 => ?_) (fun c49 => ?_)
    · skip
      have hle : rn + ((stR ra rn).2.1 + popc (stR ra rn).1 9) ≤ 40 := by rw [← hed, ← hS.1]; omega
      refine wq_aload_n rfl rfl ?_
      refine wq_virt (b := b) (a := []) (rest := []) rfl rfl rfl rfl rfl (mS_o hb) ?_
      refine r_M_notes hb hu ?_
      show WP _ _ _ _ 59 [.ref b, .int (nI ((esum be1 9 / 2) + (popc th1 9))), .long 0, .long 0] [] (mR b pre 0 tl (unN un) kn ap wb tx sq (paN un pa sq) ke to wg we th1 pcs1 brs1 be1 po1 ro1 kf1 bg1 en1)
      refine wq_iconst (v := nI 0) rfl (by decide) ?_
      refine wq_istore_n (lv' := [.ref b, .int (nI ((esum be1 9 / 2) + (popc th1 9))), .int (nI 0), .long 0]) rfl rfl rfl ?_
      refine l_M_clO hb (n := rn + (stR ra rn).2.1) (τ := stR ra rn) (r := (rn, ra)) (by omega) (CE_0 hV) hS.2.1 hbe1 ?_ 9 0 _ _ rfl hRR
      intro sq1 v3 hsq1
      show WP _ _ _ _ 129 [.ref b, .int (nI (esum be1 9 / 2 + popc th1 9)), .int (nI 9), v3] [] (mR b pre 0 tl (unN un) kn ap wb tx sq1 (paN un pa sq) ke to wg we th1 pcs1 brs1 be1 po1 ro1 kf1 bg1 en1)
      refine wq_iconst (v := nI 0) rfl (by decide) ?_
      refine wq_istore_n (lv' := [.ref b, .int (nI (esum be1 9 / 2 + popc th1 9)), .int (nI 0), v3]) rfl rfl rfl ?_
      refine l_M_clP hb (n := rn + (stR ra rn).2.1 + popc (stR ra rn).1 9) (by omega) hth1 (by have q := CE_CP hV (by omega); rw [← hS.1] at q ⊢; exact q) ?_ 9 0 _ rfl hsq1
      intro sq2 hsq2
      show WP _ _ _ _ 181 [.ref b, .int (nI (esum be1 9 / 2 + popc th1 9)), .int (nI 9), v3] [] (mR b pre 0 tl (unN un) kn ap wb tx sq2 (paN un pa sq) ke to wg we th1 pcs1 brs1 be1 po1 ro1 kf1 bg1 en1)
      refine wq_iload_n rfl rfl ?_
      refine wq_iret rfl trivial ?_
      have hne : ¬ (sT (tl, ta, (rn, ra), un, ua, kn, ka)).1 = 0 := by have q := c20; rw [hS.1] at q; exact q
      have hma : esum be1 9 / 2 + popc th1 9 = (maT (tl, ta, (rn, ra), un, ua, kn, ka)) := by rw [hed, hS.1]; rfl
      rw [hma]
      exact fin_ (A' := sR (nT (tl, ta, (rn, ra), un, ua, kn, ka)) (clR (rn, ra))) hQ (by unfold f_clear; (try dsimp only); rw [if_neg hne, if_neg (by omega)]) ⟨_, _, _, _, _, _, _, _, _, _, _, _, _, _, _, _, _, _, _, rfl, (RI_row (RI_note hI0) (clR_RV hV hle) (by rw [hS.1] at hsq2; exact hsq2)), hSB1⟩
    · skip
      refine wq_bipush (v := (-3)) rfl (by decide) ?_
      refine wq_iret rfl trivial ?_
      have hne : ¬ (sT (tl, ta, (rn, ra), un, ua, kn, ka)).1 = 0 := by have q := c20; rw [hS.1] at q; exact q
      have hma : esum be1 9 / 2 + popc th1 9 = (maT (tl, ta, (rn, ra), un, ua, kn, ka)) := by rw [hed, hS.1]; rfl
      exact fin_ (A' := (tl, ta, (rn, ra), un, ua, kn, ka)) hQ (by unfold f_clear; (try dsimp only); rw [if_neg hne, if_pos (by omega)]) ⟨_, _, _, _, _, _, _, _, _, _, _, _, _, _, _, _, _, _, _, rfl, hI0, hSB1⟩
  · skip
    refine wq_bipush (v := (-2)) rfl (by decide) ?_
    refine wq_iret rfl trivial ?_
    have h0 : (sT (tl, ta, (rn, ra), un, ua, kn, ka)).1 = 0 := by have q := c20; rw [hS.1] at q; exact q
    exact fin_ (A' := (tl, ta, (rn, ra), un, ua, kn, ka)) hQ (by unfold f_clear; (try dsimp only); rw [if_pos h0]) ⟨_, _, _, _, _, _, _, _, _, _, _, _, _, _, _, _, _, _, _, rfl, hI0, hSB1⟩
theorem st_none {ra : Nat → Nat} {rn k : Nat} (h : okB (swA ra (k + 1)) rn = false) : stL ra rn (k + 1) = stL ra rn k := by
  show (if okB (swA ra (k + 1)) rn = true then _ else _) = _
  rw [if_neg (by rw [h]; decide)]
theorem st_yes {ra : Nat → Nat} {rn k : Nat} (h : okB (swA ra (k + 1)) rn = true) (hz : ∀ z, stL ra rn k = some z → z.2 ≤ 100) (hL : loL rn (bsR (swA ra (k + 1)) rn) ≤ 100) (c : ¬ nI (loL rn (bsR (swA ra (k + 1)) rn)) ≤ pI 1 (stL ra rn k)) : stL ra rn (k + 1) = some (k + 1, loL rn (bsR (swA ra (k + 1)) rn)) := by
  show (if okB (swA ra (k + 1)) rn = true then _ else _) = _
  rw [if_pos h]
  cases e : stL ra rn k with
  | none => rfl
  | some z =>
    rw [e] at c
    have h1 := hz z e
    have c' : ¬ nI (loL rn (bsR (swA ra (k + 1)) rn)) ≤ nI z.2 := c
    rw [nI_leI (by omega) (by omega)] at c'
    show (if z.2 < _ then _ else _) = _
    rw [if_pos (by omega)]
theorem st_no {ra : Nat → Nat} {rn k : Nat} (h : okB (swA ra (k + 1)) rn = true) (hz : ∀ z, stL ra rn k = some z → z.2 ≤ 100) (hL : loL rn (bsR (swA ra (k + 1)) rn) ≤ 100) (c : nI (loL rn (bsR (swA ra (k + 1)) rn)) ≤ pI 1 (stL ra rn k)) : stL ra rn (k + 1) = stL ra rn k := by
  show (if okB (swA ra (k + 1)) rn = true then _ else _) = _
  rw [if_pos h]
  cases e : stL ra rn k with
  | none =>
    rw [e] at c
    exact absurd (Int32.not_lt.mpr c) (fun z => z (nI_neg (by decide) (by omega)))
  | some z =>
    rw [e] at c
    have h1 := hz z e
    have c' : nI (loL rn (bsR (swA ra (k + 1)) rn)) ≤ nI z.2 := c
    rw [nI_leI (by omega) (by omega)] at c'
    show (if z.2 < _ then _ else _) = _
    rw [if_neg (by omega)]
theorem pI_n4 (w : Nat) (z : Option (Nat × Nat)) (hz : ∀ x, z = some x → x.2 ≤ 100) : (-4 : Int32) ≤ pI 1 z := by
  cases z with
  | none => exact Int32.le_refl _
  | some x => exact Int32.le_of_lt (nI_neg (by decide) (by have := hz x rfl; omega))
theorem l_M_stead {d b : Nat} {pre : mH} {tn : Nat} {lt : Nat} {un : Nat} {kp : Nat} {ap : Nat} {wb : Nat} {tx : Nat → Nat} {sq : Nat → Nat} {pa : Nat → Nat} {ke : Nat → Nat} {to : Nat → Nat} {wg : Nat → Nat} {we : Nat → Nat} {Q : Option Value → mH → Prop} (hb : pre.length = b) {w rn : Nat} {ra : Nat → Nat} (hV : RV (rn, ra)) (hRR : RR sq (rn, ra)) (K : ∀ (th : Nat) (pcs : Nat) (brs : Nat) (be : Nat → Nat) (po : Nat → Nat) (ro : Nat → Nat) (kf : Nat → Nat → Nat) (bg : Nat → Nat) (en : Nat → Nat) (v5 : Value), SB ro kf → WP (Rn mprog (d + 6)) k_M_steadiest (some .int) Q 98 [.ref b, .int (nI w), .int ((pI 0 (stL ra rn (rn - 1)))), .int ((pI 1 (stL ra rn (rn - 1)))), .int (nI ((rn - 1) + 1)), v5] [] (mR b pre tn lt un kp ap wb tx sq pa ke to wg we th pcs brs be po ro kf bg en)) : ∀ (m i : Nat) (th : Nat) (pcs : Nat) (brs : Nat) (be : Nat → Nat) (po : Nat → Nat) (ro : Nat → Nat) (kf : Nat → Nat → Nat) (bg : Nat → Nat) (en : Nat → Nat) (v5 : Value), i + m = rn - 1 → SB ro kf → (∀ z, stL ra rn i = some z → z.2 ≤ 100) → WP (Rn mprog (d + 6)) k_M_steadiest (some .int) Q 25 [.ref b, .int (nI w), .int ((pI 0 (stL ra rn i))), .int ((pI 1 (stL ra rn i))), .int (nI (i + 1)), v5] [] (mR b pre tn lt un kp ap wb tx sq pa ke to wg we th pcs brs be po ro kf bg en) := by
  have hs0 : sq 0 = rn := hRR.1
  have hrn : rn ≤ 40 := hV.1
  intro m
  induction m with
  | zero =>
    intro i th pcs brs be po ro kf bg en v5 hi hSB hz
    have e : i = rn - 1 := by omega
    rw [← e] at K
    refine wq_iload rfl rfl ?_
    refine wq_aload_n rfl rfl ?_
    refine wq_getfield (v := .ref (b + 2)) rfl (mS_o hb) rfl ?_
    refine wq_iconst (v := nI 0) rfl (by decide) ?_
    refine wn_iaload (g := sq) rfl (mS_a3 hb) (by omega) (by decide) ?_
    refine wn_ic_ge rfl (by omega) (by omega) (fun c33 => ?_) (fun c33 => absurd c33 (by omega))
    exact K th pcs brs be po ro kf bg en v5 hSB
  | succ m ih =>
    intro i th pcs brs be po ro kf bg en v5 hi hSB hz
    have hp4 := pI_n4 1 _ hz
    refine wq_iload rfl rfl ?_
    refine wq_aload_n rfl rfl ?_
    refine wq_getfield (v := .ref (b + 2)) rfl (mS_o hb) rfl ?_
    refine wq_iconst (v := nI 0) rfl (by decide) ?_
    refine wn_iaload (g := sq) rfl (mS_a3 hb) (by omega) (by decide) ?_
    refine wn_ic_ge rfl (by omega) (by omega) (fun c33 => absurd c33 (by omega)) (fun c33 => ?_)
    refine wq_aload_n rfl rfl ?_
    refine wq_iload rfl rfl ?_
    refine wq_virt (b := b) (a := [.int (nI (i + 1))]) (rest := []) rfl rfl rfl rfl rfl (mS_o hb) ?_
    refine r_M_swaps hb (by omega) ?_
    show WP _ _ _ _ 42 [.ref b, .int (nI w), .int ((pI 0 (stL ra rn i))), .int ((pI 1 (stL ra rn i))), .int (nI (i + 1)), v5] [] (mR b pre tn lt un kp ap wb tx (uN' (uN' sq (i + 1) (sq (i + 1 + 1))) (i + 1 + 1) (sq (i + 1))) pa ke to wg we th pcs brs be po ro kf bg en)
    refine wq_aload_n rfl rfl ?_
    refine wq_virt (b := b) (a := []) (rest := []) rfl rfl rfl rfl rfl (mS_o hb) ?_
    refine r_R_all hb hSB hrn (sw_AV hV.2.1 (by omega)) (RR_sw hRR (by omega) (by omega)) (fun hok th2 pcs2 brs2 be2 po2 ro2 kf2 bg2 en2 hB2 hSB2 => ?_) (fun hno th2 pcs2 brs2 be2 po2 ro2 kf2 bg2 en2 hSB2 => ?_)
    · skip
      show WP _ _ _ _ 46 [.ref b, .int (nI w), .int ((pI 0 (stL ra rn i))), .int ((pI 1 (stL ra rn i))), .int (nI (i + 1)), v5] [.int (nI 1)] (mR b pre tn lt un kp ap wb tx (uN' (uN' sq (i + 1) (sq (i + 1 + 1))) (i + 1 + 1) (sq (i + 1))) pa ke to wg we th2 pcs2 brs2 be2 po2 ro2 kf2 bg2 en2)
      refine wq_if_eq rfl (fun c => absurd c (by decide)) (fun _ => ?_)
      refine wq_aload_n rfl rfl ?_
      refine wq_virt (b := b) (a := []) (rest := []) rfl rfl rfl rfl rfl (mS_o hb) ?_
      have hV2 : RV (rn, swA ra (i + 1)) := ⟨hrn, sw_AV hV.2.1 (by omega), hok⟩
      obtain ⟨hn2, hq2⟩ := BL_BQ hV2 hB2
      have hS0 := (RR_sw (k := i + 1) hRR (by omega) (by omega)).1
      have hS0 : uN' (uN' sq (i + 1) (sq (i + 1 + 1))) (i + 1 + 1) (sq (i + 1)) 0 = rn := hS0
      have hlb : loL rn (bsR (swA ra (i + 1)) rn) ≤ 100 := by rw [← BL_lo hB2]; exact mxN_le brs2 (fun j hj => lnN_le hrn (hq2 j hj).1.2.2.2)
      refine r_M_longest hb hn2 (by rw [hS0]; exact hrn) (by rw [hS0]; exact hq2) ?_
      rw [hS0, BL_lo hB2]
      show WP _ _ _ _ 53 [.ref b, .int (nI w), .int ((pI 0 (stL ra rn i))), .int ((pI 1 (stL ra rn i))), .int (nI (i + 1)), v5] [.int (nI (loL rn (bsR (swA ra (i + 1)) rn)))] (mR b pre tn lt un kp ap wb tx (uN' (uN' sq (i + 1) (sq (i + 1 + 1))) (i + 1 + 1) (sq (i + 1))) pa ke to wg we th2 pcs2 brs2 be2 po2 ro2 kf2 bg2 en2)
      refine wq_goto rfl ?_
      refine wq_istore (lv' := [.ref b, .int (nI w), .int ((pI 0 (stL ra rn i))), .int ((pI 1 (stL ra rn i))), .int (nI (i + 1)), .int (nI (loL rn (bsR (swA ra (i + 1)) rn)))]) rfl rfl rfl ?_
      refine wq_aload_n rfl rfl ?_
      refine wq_iload rfl rfl ?_
      refine wq_virt (b := b) (a := [.int (nI (i + 1))]) (rest := []) rfl rfl rfl rfl rfl (mS_o hb) ?_
      refine r_M_swaps hb (by omega) ?_
      rw [sw_sw]
      show WP _ _ _ _ 66 [.ref b, .int (nI w), .int ((pI 0 (stL ra rn i))), .int ((pI 1 (stL ra rn i))), .int (nI (i + 1)), .int (nI (loL rn (bsR (swA ra (i + 1)) rn)))] [] (mR b pre tn lt un kp ap wb tx sq pa ke to wg we th2 pcs2 brs2 be2 po2 ro2 kf2 bg2 en2)
      refine wq_iload rfl rfl ?_
      refine wq_iload_n rfl rfl ?_
      refine wq_ic_le rfl (fun c69 => ?_) (fun c69 => ?_)
      · skip
        refine wq_iload_n rfl rfl ?_
        refine wq_istore_n (lv' := [.ref b, .int (nI w), .int ((pI 0 (stL ra rn i))), .int ((pI 1 (stL ra rn i))), .int (nI (i + 1)), .int (nI (loL rn (bsR (swA ra (i + 1)) rn)))]) rfl rfl rfl ?_
        refine wq_iload rfl rfl ?_
        refine wq_iload_n rfl rfl ?_
        refine wq_ic_le rfl (fun c82 => ?_) (fun c82 => absurd c82 (fun z => z c69))
        refine wq_iload_n rfl rfl ?_
        refine wq_istore_n (lv' := [.ref b, .int (nI w), .int ((pI 0 (stL ra rn i))), .int ((pI 1 (stL ra rn i))), .int (nI (i + 1)), .int (nI (loL rn (bsR (swA ra (i + 1)) rn)))]) rfl rfl rfl ?_
        refine wn_inc (lv' := [.ref b, .int (nI w), .int ((pI 0 (stL ra rn i))), .int ((pI 1 (stL ra rn i))), .int (nI (i + 1 + 1)), .int (nI (loL rn (bsR (swA ra (i + 1)) rn)))]) rfl rfl rfl ?_
        refine wq_goto rfl ?_
        have hst := st_no ((okB_iff rn).mpr hok) hz hlb c69
        rw [← hst]
        exact ih (i + 1) _ _ _ _ _ _ _ _ _ _ (by omega) hSB2 (by rw [hst]; exact hz)
      · skip
        refine wq_iload rfl rfl ?_
        refine wq_goto rfl ?_
        refine wq_istore_n (lv' := [.ref b, .int (nI w), .int (nI (i + 1)), .int ((pI 1 (stL ra rn i))), .int (nI (i + 1)), .int (nI (loL rn (bsR (swA ra (i + 1)) rn)))]) rfl rfl rfl ?_
        refine wq_iload rfl rfl ?_
        refine wq_iload_n rfl rfl ?_
        refine wq_ic_le rfl (fun c82 => absurd c82 c69) (fun c82 => ?_)
        refine wq_iload rfl rfl ?_
        refine wq_goto rfl ?_
        refine wq_istore_n (lv' := [.ref b, .int (nI w), .int (nI (i + 1)), .int (nI (loL rn (bsR (swA ra (i + 1)) rn))), .int (nI (i + 1)), .int (nI (loL rn (bsR (swA ra (i + 1)) rn)))]) rfl rfl rfl ?_
        refine wn_inc (lv' := [.ref b, .int (nI w), .int (nI (i + 1)), .int (nI (loL rn (bsR (swA ra (i + 1)) rn))), .int (nI (i + 1 + 1)), .int (nI (loL rn (bsR (swA ra (i + 1)) rn)))]) rfl rfl rfl ?_
        refine wq_goto rfl ?_
        have hst := st_yes ((okB_iff rn).mpr hok) hz hlb c69
        have q := ih (i + 1) th2 pcs2 brs2 be2 po2 ro2 kf2 bg2 en2 (.int (nI (loL rn (bsR (swA ra (i + 1)) rn)))) (by omega) hSB2 (by rw [hst]; intro z hz2; cases hz2; exact hlb)
        rw [hst] at q
        exact q
    · skip
      show WP _ _ _ _ 46 [.ref b, .int (nI w), .int ((pI 0 (stL ra rn i))), .int ((pI 1 (stL ra rn i))), .int (nI (i + 1)), v5] [.int (nI 0)] (mR b pre tn lt un kp ap wb tx (uN' (uN' sq (i + 1) (sq (i + 1 + 1))) (i + 1 + 1) (sq (i + 1))) pa ke to wg we th2 pcs2 brs2 be2 po2 ro2 kf2 bg2 en2)
      refine wq_if_eq rfl (fun _ => ?_) (fun c => absurd c (by decide))
      refine wq_bipush (v := (-4)) rfl (by decide) ?_
      refine wq_istore (lv' := [.ref b, .int (nI w), .int ((pI 0 (stL ra rn i))), .int ((pI 1 (stL ra rn i))), .int (nI (i + 1)), .int ((-4))]) rfl rfl rfl ?_
      refine wq_aload_n rfl rfl ?_
      refine wq_iload rfl rfl ?_
      refine wq_virt (b := b) (a := [.int (nI (i + 1))]) (rest := []) rfl rfl rfl rfl rfl (mS_o hb) ?_
      refine r_M_swaps hb (by omega) ?_
      rw [sw_sw]
      show WP _ _ _ _ 66 [.ref b, .int (nI w), .int ((pI 0 (stL ra rn i))), .int ((pI 1 (stL ra rn i))), .int (nI (i + 1)), .int ((-4))] [] (mR b pre tn lt un kp ap wb tx sq pa ke to wg we th2 pcs2 brs2 be2 po2 ro2 kf2 bg2 en2)
      refine wq_iload rfl rfl ?_
      refine wq_iload_n rfl rfl ?_
      refine wq_ic_le rfl (fun c69 => ?_) (fun c69 => absurd c69 (fun z => z hp4))
      refine wq_iload_n rfl rfl ?_
      refine wq_istore_n (lv' := [.ref b, .int (nI w), .int ((pI 0 (stL ra rn i))), .int ((pI 1 (stL ra rn i))), .int (nI (i + 1)), .int ((-4))]) rfl rfl rfl ?_
      refine wq_iload rfl rfl ?_
      refine wq_iload_n rfl rfl ?_
      refine wq_ic_le rfl (fun c82 => ?_) (fun c82 => absurd c82 (fun z => z hp4))
      refine wq_iload_n rfl rfl ?_
      refine wq_istore_n (lv' := [.ref b, .int (nI w), .int ((pI 0 (stL ra rn i))), .int ((pI 1 (stL ra rn i))), .int (nI (i + 1)), .int ((-4))]) rfl rfl rfl ?_
      refine wn_inc (lv' := [.ref b, .int (nI w), .int ((pI 0 (stL ra rn i))), .int ((pI 1 (stL ra rn i))), .int (nI (i + 1 + 1)), .int ((-4))]) rfl rfl rfl ?_
      refine wq_goto rfl ?_
      have hob : okB (swA ra (i + 1)) rn = false := by cases z : okB (swA ra (i + 1)) rn with | false => rfl | true => exact absurd ((okB_iff rn).mp z) hno
      have hst := st_none hob
      rw [← hst]
      exact ih (i + 1) _ _ _ _ _ _ _ _ _ _ (by omega) hSB2 (by rw [hst]; exact hz)
theorem R_steadiest {d b : Nat} {pre : mH} {A : AS} {h : mH} {Q : Option Value → mH → Prop} (hb : pre.length = b) (hR : RIA b pre A h) {w : Nat} (hw0 : w < 2 ^ 31) (hQ : ∀ h', RIA b pre (f_stead A w).2 h' → Q (some (.int (f_stead A w).1)) h') : Rn mprog (d + 7) n_M_steadiest [.ref b, .int (nI w)] h Q := by
  obtain ⟨tl, ta, ⟨rn, ra⟩, un, ua, kn, ka⟩ := A
  obtain ⟨tn, ap, wb, tx, sq, pa, ke, to, wg, we, th, pcs, brs, be, po, ro, kf, bg, en, rfl, hI, hSB⟩ := hR
  have hI0 := hI
  obtain ⟨hl, htx, hV, hRR, hu, hU, hk, hK⟩ := hI
  dsimp only at hl htx hV hRR hu hU hk hK
  have hs0 : sq 0 = rn := hRR.1
  have hrn : rn ≤ 40 := hV.1
  refine Rn.in rfl rfl rfl ?_
  show WP _ _ _ _ 0 [.ref b, .int (nI w), .long 0, .long 0, .long 0, .long 0] [] (mR b pre tn tl un kn ap wb tx sq pa ke to wg we th pcs brs be po ro kf bg en)
  refine wq_aload_n rfl rfl ?_
  refine wq_iconst (v := nI 0) rfl (by decide) ?_
  refine wq_putfield (h' := mR b pre 0 tl un kn ap wb tx sq pa ke to wg we th pcs brs be po ro kf bg en) rfl (mS_o hb) rfl (mS_s0 hb) ?_
  refine wq_iload_n rfl rfl ?_
  refine wq_iconst (v := nI 0) rfl (by decide) ?_
  refine wq_iconst (v := nI 1) rfl (by decide) ?_
  refine wq_stat (a := [.int (nI w), .int (nI 0), .int (nI 1)]) (rest := []) rfl rfl rfl rfl rfl ?_
  refine r_M_inN (by omega) (by omega) (by omega) (fun c8 => ?_) (fun c8 => ?_)
  · skip
    show WP _ _ _ _ 11 [.ref b, .int (nI w), .long 0, .long 0, .long 0, .long 0] [.int (nI 1)] (mR b pre 0 tl un kn ap wb tx sq pa ke to wg we th pcs brs be po ro kf bg en)
    refine wq_if_ne rfl (fun _ => ?_) (fun c => absurd c (by decide))
    refine wq_bipush (v := (-4)) rfl (by decide) ?_
    refine wq_istore_n (lv' := [.ref b, .int (nI w), .int ((-4)), .long 0, .long 0, .long 0]) rfl rfl rfl ?_
    refine wq_bipush (v := (-4)) rfl (by decide) ?_
    refine wq_istore_n (lv' := [.ref b, .int (nI w), .int ((-4)), .int ((-4)), .long 0, .long 0]) rfl rfl rfl ?_
    refine wq_iconst (v := nI 1) rfl (by decide) ?_
    refine wq_istore (lv' := [.ref b, .int (nI w), .int ((-4)), .int ((-4)), .int (nI 1), .long 0]) rfl rfl rfl ?_
    refine l_M_stead hb (w := w) hV hRR ?_ (rn - 1) 0 _ _ _ _ _ _ _ _ _ _ (by omega) hSB (fun z hz => by cases hz)
    intro th1 pcs1 brs1 be1 po1 ro1 kf1 bg1 en1 v5 hSB1
    show WP _ _ _ _ 98 [.ref b, .int (nI w), .int ((pI 0 (stL ra rn (rn - 1)))), .int ((pI 1 (stL ra rn (rn - 1)))), .int (nI ((rn - 1) + 1)), v5] [] (mR b pre 0 tl un kn ap wb tx sq pa ke to wg we th1 pcs1 brs1 be1 po1 ro1 kf1 bg1 en1)
    refine wq_iload_n rfl rfl ?_
    refine wn_if_ne rfl (by omega) (fun c99 => ?_) (fun c99 => ?_)
    · skip
      refine wq_iload_n rfl rfl ?_
      refine wq_iret rfl trivial ?_
      have hw : w = 1 := by omega
      subst hw
      exact fin_ (A' := (tl, ta, (rn, ra), un, ua, kn, ka)) hQ (by unfold f_stead; (try dsimp only); rw [if_neg (by decide)]) ⟨_, _, _, _, _, _, _, _, _, _, _, _, _, _, _, _, _, _, _, rfl, hI0, hSB1⟩
    · skip
      refine wq_iload_n rfl rfl ?_
      refine wq_goto rfl ?_
      refine wq_iret rfl trivial ?_
      have hw : w = 0 := by omega
      subst hw
      exact fin_ (A' := (tl, ta, (rn, ra), un, ua, kn, ka)) hQ (by unfold f_stead; (try dsimp only); rw [if_neg (by decide)]) ⟨_, _, _, _, _, _, _, _, _, _, _, _, _, _, _, _, _, _, _, rfl, hI0, hSB1⟩
  · skip
    show WP _ _ _ _ 11 [.ref b, .int (nI w), .long 0, .long 0, .long 0, .long 0] [.int (nI 0)] (mR b pre 0 tl un kn ap wb tx sq pa ke to wg we th pcs brs be po ro kf bg en)
    refine wq_if_ne rfl (fun c => absurd c (by decide)) (fun _ => ?_)
    refine wq_iconst (v := (-1)) rfl (by decide) ?_
    refine wq_iret rfl trivial ?_
    exact fin_ (A' := (tl, ta, (rn, ra), un, ua, kn, ka)) hQ (by unfold f_stead; (try dsimp only); (repeat first | rw [if_pos (by omega)] | rw [if_neg (by omega)]); try rfl) ⟨_, _, _, _, _, _, _, _, _, _, _, _, _, _, _, _, _, _, _, rfl, hI0, hSB⟩
theorem R_steadiest_neg {d b : Nat} {pre : mH} {A : AS} {h : mH} {Q : Option Value → mH → Prop} (hb : pre.length = b) (hR : RIA b pre A h) {v1 : Int32} (hneg : v1 < 0) (hQ : ∀ h', RIA b pre A h' → Q (some (.int (-1))) h') : Rn mprog (d + 7) n_M_steadiest [.ref b, .int v1] h Q := by
  obtain ⟨tl, ta, ⟨rn, ra⟩, un, ua, kn, ka⟩ := A
  obtain ⟨tn, ap, wb, tx, sq, pa, ke, to, wg, we, th, pcs, brs, be, po, ro, kf, bg, en, rfl, hI, hSB⟩ := hR
  have hI0 := hI
  obtain ⟨hl, htx, hV, hRR, hu, hU, hk, hK⟩ := hI
  dsimp only at hl htx hV hRR hu hU hk hK
  have hs0 : sq 0 = rn := hRR.1
  have hrn : rn ≤ 40 := hV.1
  refine Rn.in rfl rfl rfl ?_
  show WP _ _ _ _ 0 [.ref b, .int v1, .long 0, .long 0, .long 0, .long 0] [] (mR b pre tn tl un kn ap wb tx sq pa ke to wg we th pcs brs be po ro kf bg en)
  refine wq_aload_n rfl rfl ?_
  refine wq_iconst (v := nI 0) rfl (by decide) ?_
  refine wq_putfield (h' := mR b pre 0 tl un kn ap wb tx sq pa ke to wg we th pcs brs be po ro kf bg en) rfl (mS_o hb) rfl (mS_s0 hb) ?_
  refine wq_iload_n rfl rfl ?_
  refine wq_iconst (v := nI 0) rfl (by decide) ?_
  refine wq_iconst (v := nI 1) rfl (by decide) ?_
  refine wq_stat (a := [.int v1, .int (nI 0), .int (nI 1)]) (rest := []) rfl rfl rfl rfl rfl ?_
  refine r_M_in (fun c8 => absurd c8 (fun z => (fun q => nI_ngl q (by decide) z.1) hneg)) (fun c8 => ?_)
  show WP _ _ _ _ 11 [.ref b, .int v1, .long 0, .long 0, .long 0, .long 0] [.int (nI 0)] (mR b pre 0 tl un kn ap wb tx sq pa ke to wg we th pcs brs be po ro kf bg en)
  refine wq_if_ne rfl (fun c => absurd c (by decide)) (fun _ => ?_)
  refine wq_iconst (v := (-1)) rfl (by decide) ?_
  refine wq_iret rfl trivial ?_
  exact hQ _ ⟨_, _, _, _, _, _, _, _, _, _, _, _, _, _, _, _, _, _, _, rfl, hI0, hSB⟩
