/-! Story: step of edges; open bars -/
theorem r_Sto_step2 {d b : Nat} {pre suf : mH} {pts : Nat} {edg : Nat} {nr : Nat → Nat} {rt : Nat → Nat} {sc : Nat → Nat → Nat} {wf : Nat → Nat} {ws : Nat → Nat} {bsz : Nat} {bop : Nat} {bbg : Nat → Nat} {ben : Nat → Nat} {Q : Option Value → mH → Prop} (hb : pre.length = b) {ac k : Nat} (hac : ac < 1024) (hA : ac >>> 4 &&& 15 < 9) (hB : ac &&& 15 < 9) (hk : k < 1000) (hpt : pts < 512) (hnr : ∀ p, p < 9 → nr p < 512) (hbs : bsz < 40) (hbv : ∀ i, i < 40 → bbg i < 2 ^ 31 ∧ ben i < 2 ^ 31) (hsc : ∀ p q, p < 9 → q < 9 → sc p q < 1000) (hrt : ∀ p, p < 9 → rt p < 1000) (hne : ac >>> 4 &&& 15 ≠ ac &&& 15) (hinA : pts.testBit (ac >>> 4 &&& 15) = true) (hinB : pts.testBit (ac &&& 15) = true) (hnx : ∀ p, p < 9 → (nrX nr (ac >>> 4 &&& 15) (ac &&& 15)) p < 512) (hκ : ac >>> 8 = 2) (hbit : (nr (ac >>> 4 &&& 15)).testBit (ac &&& 15) = false) (hb2 : ((nrX nr (ac >>> 4 &&& 15) (ac &&& 15)) (ac >>> 4 &&& 15)).testBit (ac &&& 15) = true) (hexJ : ∀ R J, IsR nr (ac >>> 4 &&& 15) R → R.testBit (ac &&& 15) = false → IsR (nrX nr (ac >>> 4 &&& 15) (ac &&& 15)) (ac >>> 4 &&& 15) J → ∀ p, p < 9 → sc (ac >>> 4 &&& 15) (ac &&& 15) < wv J (sc (ac >>> 4 &&& 15)) p → sc (ac >>> 4 &&& 15) (ac &&& 15) < wv J (sc (ac &&& 15)) p → False) (hQ1 : ∀ R, IsR nr (ac >>> 4 &&& 15) R → R.testBit (ac &&& 15) = true → Q none (sW b pre pts (edg + 1) (nrX nr (ac >>> 4 &&& 15) (ac &&& 15)) rt sc wf ws bsz bop bbg ben suf)) (hQ2 : ∀ R J, IsR nr (ac >>> 4 &&& 15) R → R.testBit (ac &&& 15) = false → IsR (nrX nr (ac >>> 4 &&& 15) (ac &&& 15)) (ac >>> 4 &&& 15) J → ∀ p, p ≤ bsz → (∀ i, p ≤ i → i < bsz → gtP (bbg i) (ben i) (if 0 < sc (ac >>> 4 &&& 15) (ac &&& 15) then sc (ac >>> 4 &&& 15) (ac &&& 15) else max (rt (ac >>> 4 &&& 15)) (rt (ac &&& 15))) k = true) → (p = 0 ∨ gtP (bbg (p - 1)) (ben (p - 1)) (if 0 < sc (ac >>> 4 &&& 15) (ac &&& 15) then sc (ac >>> 4 &&& 15) (ac &&& 15) else max (rt (ac >>> 4 &&& 15)) (rt (ac &&& 15))) k = false) → Q none (sW b pre pts (edg + 1) (nrX nr (ac >>> 4 &&& 15) (ac &&& 15)) (if sc (ac >>> 4 &&& 15) (ac &&& 15) = 0 then pw 9 (lR J (pw 9 (fun _ => true) (wv J (sc (ac >>> 4 &&& 15))) wf) (pw 9 (fun _ => true) (wv J (sc (ac &&& 15))) ws)) (fun _ => min (rt (ac >>> 4 &&& 15)) (rt (ac &&& 15))) rt else rt) (sj (sc (ac >>> 4 &&& 15) (ac &&& 15)) J (pw 9 (fun _ => true) (wv J (sc (ac >>> 4 &&& 15))) wf) (pw 9 (fun _ => true) (wv J (sc (ac &&& 15))) ws) sc 9) (pw 9 (fun _ => true) (wv J (sc (ac >>> 4 &&& 15))) wf) (pw 9 (fun _ => true) (wv J (sc (ac &&& 15))) ws) (bsz + 1) (if k = 99 then bop + 1 else bop) (inA bbg p bsz (if 0 < sc (ac >>> 4 &&& 15) (ac &&& 15) then sc (ac >>> 4 &&& 15) (ac &&& 15) else max (rt (ac >>> 4 &&& 15)) (rt (ac &&& 15)))) (inA ben p bsz k) suf)) : Rn mprog (d + 5) n_Sto_step [.ref b, .int (nI ac), .int (nI k)] (sW b pre pts edg nr rt sc wf ws bsz bop bbg ben suf) Q := by
  refine Rn.in rfl rfl rfl ?_
  show WP _ _ _ _ 0 [.ref b, .int (nI ac), .int (nI k), .long 0, .long 0, .long 0, .long 0] [] (sW b pre pts edg nr rt sc wf ws bsz bop bbg ben suf)
  have hκ2 : ac >>> 8 = 2 ∨ ac >>> 8 = 3 := Or.inl hκ
  have hj1 := hsc _ _ hA hB
  have hj2 := hrt _ hA
  have hj3 := hrt _ hB
  have hbeg : (if 0 < sc (ac >>> 4 &&& 15) (ac &&& 15) then sc (ac >>> 4 &&& 15) (ac &&& 15) else max (rt (ac >>> 4 &&& 15)) (rt (ac &&& 15))) < 1000 := by split <;> omega
  refine wq_iload_n rfl rfl ?_
  refine wq_stat (a := [.int (nI ac)]) (rest := []) rfl rfl rfl rfl rfl ?_
  refine r_Z_lowOf (by omega) ?_
  show WP _ _ _ _ 4 [.ref b, .int (nI ac), .int (nI k), .long 0, .long 0, .long 0, .long 0] [.int (nI (ac >>> 4 &&& 15))] (sW b pre pts edg nr rt sc wf ws bsz bop bbg ben suf)
  refine wq_istore_n (lv' := [.ref b, .int (nI ac), .int (nI k), .int (nI (ac >>> 4 &&& 15)), .long 0, .long 0, .long 0]) rfl rfl rfl ?_
  refine wq_iload_n rfl rfl ?_
  refine wq_stat (a := [.int (nI ac)]) (rest := []) rfl rfl rfl rfl rfl ?_
  refine r_Z_highOf ?_
  show WP _ _ _ _ 9 [.ref b, .int (nI ac), .int (nI k), .int (nI (ac >>> 4 &&& 15)), .long 0, .long 0, .long 0] [.int (nI (ac &&& 15))] (sW b pre pts edg nr rt sc wf ws bsz bop bbg ben suf)
  refine wq_istore (lv' := [.ref b, .int (nI ac), .int (nI k), .int (nI (ac >>> 4 &&& 15)), .int (nI (ac &&& 15)), .long 0, .long 0]) rfl rfl rfl ?_
  refine wq_aload_n rfl rfl ?_
  refine wq_getfield (v := .ref (b + 1)) rfl (sW_o0 hb) rfl ?_
  refine wq_iload_n rfl rfl ?_
  refine wq_virt (b := b + 1) (a := [.int (nI (ac >>> 4 &&& 15))]) (rest := []) rfl rfl rfl rfl rfl (sW_o1 hb) ?_
  rw [sW_n]
  refine r_Net_pieceOf (sW_ln hb) (by omega) hnr ?_ (by omega) hinA
  intro R hR
  have hRl := hR.1
  rw [← sW_n]
  show WP _ _ _ _ 19 [.ref b, .int (nI ac), .int (nI k), .int (nI (ac >>> 4 &&& 15)), .int (nI (ac &&& 15)), .long 0, .long 0] [.int (nI R)] (sW b pre pts edg nr rt sc wf ws bsz bop bbg ben suf)
  refine wq_iload rfl rfl ?_
  refine wq_stat (a := [.int (nI R), .int (nI (ac &&& 15))]) (rest := []) rfl rfl rfl rfl rfl ?_
  refine r_Z_isIn (by omega) (by omega) (fun c21 => ?_) (fun c21 => ?_)
  · skip
    show WP _ _ _ _ 24 [.ref b, .int (nI ac), .int (nI k), .int (nI (ac >>> 4 &&& 15)), .int (nI (ac &&& 15)), .long 0, .long 0] [.int (nI 1)] (sW b pre pts edg nr rt sc wf ws bsz bop bbg ben suf)
    refine wq_istore (lv' := [.ref b, .int (nI ac), .int (nI k), .int (nI (ac >>> 4 &&& 15)), .int (nI (ac &&& 15)), .int (nI 1), .long 0]) rfl rfl rfl ?_
    refine wq_aload_n rfl rfl ?_
    refine wq_getfield (v := .ref (b + 1)) rfl (sW_o0 hb) rfl ?_
    refine wq_iload_n rfl rfl ?_
    refine wq_virt (b := b + 1) (a := [.int (nI ac)]) (rest := []) rfl rfl rfl rfl rfl (sW_o1 hb) ?_
    rw [sW_n]
    refine r_Net_chg2 (sW_ln hb) hac hA hB hnr hκ2 hbit ?_
    rw [← sW_n]
    show WP _ _ _ _ 34 [.ref b, .int (nI ac), .int (nI k), .int (nI (ac >>> 4 &&& 15)), .int (nI (ac &&& 15)), .int (nI 1), .long 0] [] (sW b pre pts (edg + 1) (nrX nr (ac >>> 4 &&& 15) (ac &&& 15)) rt sc wf ws bsz bop bbg ben suf)
    refine wq_aload_n rfl rfl ?_
    refine wq_getfield (v := .ref (b + 1)) rfl (sW_o0 hb) rfl ?_
    refine wq_iload_n rfl rfl ?_
    refine wq_virt (b := b + 1) (a := [.int (nI (ac >>> 4 &&& 15))]) (rest := []) rfl rfl rfl rfl rfl (sW_o1 hb) ?_
    rw [sW_n]
    refine r_Net_pieceOf (sW_ln hb) (by omega) hnx ?_ (by omega) hinA
    intro R2 hR2
    have hR2l := hR2.1
    rw [← sW_n]
    show WP _ _ _ _ 42 [.ref b, .int (nI ac), .int (nI k), .int (nI (ac >>> 4 &&& 15)), .int (nI (ac &&& 15)), .int (nI 1), .long 0] [.int (nI R2)] (sW b pre pts (edg + 1) (nrX nr (ac >>> 4 &&& 15) (ac &&& 15)) rt sc wf ws bsz bop bbg ben suf)
    refine wq_iload rfl rfl ?_
    refine wq_stat (a := [.int (nI R2), .int (nI (ac &&& 15))]) (rest := []) rfl rfl rfl rfl rfl ?_
    refine r_Z_isIn (by omega) (by omega) (fun c44 => ?_) (fun c44 => absurd c44 (by rw [hR2.2.2.1 _ hA hR2.2.1 _ hb2]; decide))
    show WP _ _ _ _ 47 [.ref b, .int (nI ac), .int (nI k), .int (nI (ac >>> 4 &&& 15)), .int (nI (ac &&& 15)), .int (nI 1), .long 0] [.int (nI 1)] (sW b pre pts (edg + 1) (nrX nr (ac >>> 4 &&& 15) (ac &&& 15)) rt sc wf ws bsz bop bbg ben suf)
    refine wq_istore (lv' := [.ref b, .int (nI ac), .int (nI k), .int (nI (ac >>> 4 &&& 15)), .int (nI (ac &&& 15)), .int (nI 1), .int (nI 1)]) rfl rfl rfl ?_
    refine wq_iload_n rfl rfl ?_
    refine wq_stat (a := [.int (nI ac)]) (rest := []) rfl rfl rfl rfl rfl ?_
    refine r_Z_kindOf (by omega) ?_
    show WP _ _ _ _ 53 [.ref b, .int (nI ac), .int (nI k), .int (nI (ac >>> 4 &&& 15)), .int (nI (ac &&& 15)), .int (nI 1), .int (nI 1)] [.int (nI (ac >>> 8))] (sW b pre pts (edg + 1) (nrX nr (ac >>> 4 &&& 15) (ac &&& 15)) rt sc wf ws bsz bop bbg ben suf)
    refine wq_tsw (t := 126) rfl (by rw [hκ]; decide) ?_
    refine wq_iload rfl rfl ?_
    refine wq_if_ne rfl (fun _ => ?_) (fun c => absurd c (by decide))
    refine wq_vret rfl rfl ?_
    exact hQ1 R hR c21
  · skip
    show WP _ _ _ _ 24 [.ref b, .int (nI ac), .int (nI k), .int (nI (ac >>> 4 &&& 15)), .int (nI (ac &&& 15)), .long 0, .long 0] [.int (nI 0)] (sW b pre pts edg nr rt sc wf ws bsz bop bbg ben suf)
    refine wq_istore (lv' := [.ref b, .int (nI ac), .int (nI k), .int (nI (ac >>> 4 &&& 15)), .int (nI (ac &&& 15)), .int (nI 0), .long 0]) rfl rfl rfl ?_
    refine wq_aload_n rfl rfl ?_
    refine wq_getfield (v := .ref (b + 1)) rfl (sW_o0 hb) rfl ?_
    refine wq_iload_n rfl rfl ?_
    refine wq_virt (b := b + 1) (a := [.int (nI ac)]) (rest := []) rfl rfl rfl rfl rfl (sW_o1 hb) ?_
    rw [sW_n]
    refine r_Net_chg2 (sW_ln hb) hac hA hB hnr hκ2 hbit ?_
    rw [← sW_n]
    show WP _ _ _ _ 34 [.ref b, .int (nI ac), .int (nI k), .int (nI (ac >>> 4 &&& 15)), .int (nI (ac &&& 15)), .int (nI 0), .long 0] [] (sW b pre pts (edg + 1) (nrX nr (ac >>> 4 &&& 15) (ac &&& 15)) rt sc wf ws bsz bop bbg ben suf)
    refine wq_aload_n rfl rfl ?_
    refine wq_getfield (v := .ref (b + 1)) rfl (sW_o0 hb) rfl ?_
    refine wq_iload_n rfl rfl ?_
    refine wq_virt (b := b + 1) (a := [.int (nI (ac >>> 4 &&& 15))]) (rest := []) rfl rfl rfl rfl rfl (sW_o1 hb) ?_
    rw [sW_n]
    refine r_Net_pieceOf (sW_ln hb) (by omega) hnx ?_ (by omega) hinA
    intro R2 hR2
    have hR2l := hR2.1
    rw [← sW_n]
    show WP _ _ _ _ 42 [.ref b, .int (nI ac), .int (nI k), .int (nI (ac >>> 4 &&& 15)), .int (nI (ac &&& 15)), .int (nI 0), .long 0] [.int (nI R2)] (sW b pre pts (edg + 1) (nrX nr (ac >>> 4 &&& 15) (ac &&& 15)) rt sc wf ws bsz bop bbg ben suf)
    refine wq_iload rfl rfl ?_
    refine wq_stat (a := [.int (nI R2), .int (nI (ac &&& 15))]) (rest := []) rfl rfl rfl rfl rfl ?_
    refine r_Z_isIn (by omega) (by omega) (fun c44 => ?_) (fun c44 => absurd c44 (by rw [hR2.2.2.1 _ hA hR2.2.1 _ hb2]; decide))
    show WP _ _ _ _ 47 [.ref b, .int (nI ac), .int (nI k), .int (nI (ac >>> 4 &&& 15)), .int (nI (ac &&& 15)), .int (nI 0), .long 0] [.int (nI 1)] (sW b pre pts (edg + 1) (nrX nr (ac >>> 4 &&& 15) (ac &&& 15)) rt sc wf ws bsz bop bbg ben suf)
    refine wq_istore (lv' := [.ref b, .int (nI ac), .int (nI k), .int (nI (ac >>> 4 &&& 15)), .int (nI (ac &&& 15)), .int (nI 0), .int (nI 1)]) rfl rfl rfl ?_
    refine wq_iload_n rfl rfl ?_
    refine wq_stat (a := [.int (nI ac)]) (rest := []) rfl rfl rfl rfl rfl ?_
    refine r_Z_kindOf (by omega) ?_
    show WP _ _ _ _ 53 [.ref b, .int (nI ac), .int (nI k), .int (nI (ac >>> 4 &&& 15)), .int (nI (ac &&& 15)), .int (nI 0), .int (nI 1)] [.int (nI (ac >>> 8))] (sW b pre pts (edg + 1) (nrX nr (ac >>> 4 &&& 15) (ac &&& 15)) rt sc wf ws bsz bop bbg ben suf)
    refine wq_tsw (t := 126) rfl (by rw [hκ]; decide) ?_
    refine wq_iload rfl rfl ?_
    refine wq_if_ne rfl (fun c => absurd c (by decide)) (fun _ => ?_)
    refine wq_aload_n rfl rfl ?_
    refine wq_getfield (v := .ref (b + 8)) rfl (sW_o0 hb) rfl ?_
    refine wq_aload_n rfl rfl ?_
    refine wq_getfield (v := .ref (b + 3)) rfl (sW_o0 hb) rfl ?_
    refine wq_iload_n rfl rfl ?_
    refine wq_iload rfl rfl ?_
    refine wq_virt (b := b + 3) (a := [.int (nI (ac >>> 4 &&& 15)), .int (nI (ac &&& 15))]) (rest := [.ref (b + 8)]) rfl rfl rfl rfl rfl (sW_o3 hb) ?_
    rw [sW_k]
    refine r_Kin_boj (sW_lk hb) (by omega) (by omega) (hsc _ _ hA hB) (hrt _ hA) (hrt _ hB) ?_
    rw [← sW_k]
    show WP _ _ _ _ 145 [.ref b, .int (nI ac), .int (nI k), .int (nI (ac >>> 4 &&& 15)), .int (nI (ac &&& 15)), .int (nI 0), .int (nI 1)] [.int (nI (if 0 < sc (ac >>> 4 &&& 15) (ac &&& 15) then sc (ac >>> 4 &&& 15) (ac &&& 15) else max (rt (ac >>> 4 &&& 15)) (rt (ac &&& 15)))), .ref (b + 8)] (sW b pre pts (edg + 1) (nrX nr (ac >>> 4 &&& 15) (ac &&& 15)) rt sc wf ws bsz bop bbg ben suf)
    refine wq_iload_n rfl rfl ?_
    refine wq_virt (b := b + 8) (a := [.int (nI (if 0 < sc (ac >>> 4 &&& 15) (ac &&& 15) then sc (ac >>> 4 &&& 15) (ac &&& 15) else max (rt (ac >>> 4 &&& 15)) (rt (ac &&& 15)))), .int (nI k)]) (rest := []) rfl rfl rfl rfl rfl (sW_o8 hb) ?_
    rw [sW_b]
    refine r_Bars_add (sW_lb hb) hbs hbv (by have := hbeg; omega) (by omega) ?_
    intro p hp1 hp2 hp3
    rw [← sW_b]
    show WP _ _ _ _ 149 [.ref b, .int (nI ac), .int (nI k), .int (nI (ac >>> 4 &&& 15)), .int (nI (ac &&& 15)), .int (nI 0), .int (nI 1)] [] (sW b pre pts (edg + 1) (nrX nr (ac >>> 4 &&& 15) (ac &&& 15)) rt sc wf ws (bsz + 1) (if k = 99 then bop + 1 else bop) (inA bbg p bsz (if 0 < sc (ac >>> 4 &&& 15) (ac &&& 15) then sc (ac >>> 4 &&& 15) (ac &&& 15) else max (rt (ac >>> 4 &&& 15)) (rt (ac &&& 15)))) (inA ben p bsz k) suf)
    refine wq_aload_n rfl rfl ?_
    refine wq_getfield (v := .ref (b + 3)) rfl (sW_o0 hb) rfl ?_
    refine wq_iload_n rfl rfl ?_
    refine wq_iload rfl rfl ?_
    refine wq_aload_n rfl rfl ?_
    refine wq_getfield (v := .ref (b + 1)) rfl (sW_o0 hb) rfl ?_
    refine wq_iload_n rfl rfl ?_
    refine wq_virt (b := b + 1) (a := [.int (nI (ac >>> 4 &&& 15))]) (rest := [.int (nI (ac &&& 15)), .int (nI (ac >>> 4 &&& 15)), .ref (b + 3)]) rfl rfl rfl rfl rfl (sW_o1 hb) ?_
    rw [sW_n]
    refine r_Net_pieceOf (sW_ln hb) (by omega) hnx ?_ (by omega) hinA
    intro J hJ
    have hJl := hJ.1
    rw [← sW_n]
    show WP _ _ _ _ 164 [.ref b, .int (nI ac), .int (nI k), .int (nI (ac >>> 4 &&& 15)), .int (nI (ac &&& 15)), .int (nI 0), .int (nI 1)] [.int (nI J), .int (nI (ac &&& 15)), .int (nI (ac >>> 4 &&& 15)), .ref (b + 3)] (sW b pre pts (edg + 1) (nrX nr (ac >>> 4 &&& 15) (ac &&& 15)) rt sc wf ws (bsz + 1) (if k = 99 then bop + 1 else bop) (inA bbg p bsz (if 0 < sc (ac >>> 4 &&& 15) (ac &&& 15) then sc (ac >>> 4 &&& 15) (ac &&& 15) else max (rt (ac >>> 4 &&& 15)) (rt (ac &&& 15)))) (inA ben p bsz k) suf)
    refine wq_virt (b := b + 3) (a := [.int (nI (ac >>> 4 &&& 15)), .int (nI (ac &&& 15)), .int (nI J)]) (rest := []) rfl rfl rfl rfl rfl (sW_o3 hb) ?_
    rw [sW_k]
    refine r_Kin_join (sW_lk hb) (by omega) (by omega) (by omega) hsc hrt (hexJ R J hR c21 hJ) ?_
    rw [← sW_k]
    show WP _ _ _ _ 167 [.ref b, .int (nI ac), .int (nI k), .int (nI (ac >>> 4 &&& 15)), .int (nI (ac &&& 15)), .int (nI 0), .int (nI 1)] [] (sW b pre pts (edg + 1) (nrX nr (ac >>> 4 &&& 15) (ac &&& 15)) (if sc (ac >>> 4 &&& 15) (ac &&& 15) = 0 then pw 9 (lR J (pw 9 (fun _ => true) (wv J (sc (ac >>> 4 &&& 15))) wf) (pw 9 (fun _ => true) (wv J (sc (ac &&& 15))) ws)) (fun _ => min (rt (ac >>> 4 &&& 15)) (rt (ac &&& 15))) rt else rt) (sj (sc (ac >>> 4 &&& 15) (ac &&& 15)) J (pw 9 (fun _ => true) (wv J (sc (ac >>> 4 &&& 15))) wf) (pw 9 (fun _ => true) (wv J (sc (ac &&& 15))) ws) sc 9) (pw 9 (fun _ => true) (wv J (sc (ac >>> 4 &&& 15))) wf) (pw 9 (fun _ => true) (wv J (sc (ac &&& 15))) ws) (bsz + 1) (if k = 99 then bop + 1 else bop) (inA bbg p bsz (if 0 < sc (ac >>> 4 &&& 15) (ac &&& 15) then sc (ac >>> 4 &&& 15) (ac &&& 15) else max (rt (ac >>> 4 &&& 15)) (rt (ac &&& 15)))) (inA ben p bsz k) suf)
    refine wq_goto rfl ?_
    refine wq_vret rfl rfl ?_
    exact hQ2 R J hR c21 hJ p hp1 hp2 hp3
theorem r_Sto_step3 {d b : Nat} {pre suf : mH} {pts : Nat} {edg : Nat} {nr : Nat → Nat} {rt : Nat → Nat} {sc : Nat → Nat → Nat} {wf : Nat → Nat} {ws : Nat → Nat} {bsz : Nat} {bop : Nat} {bbg : Nat → Nat} {ben : Nat → Nat} {Q : Option Value → mH → Prop} (hb : pre.length = b) {ac k : Nat} (hac : ac < 1024) (hA : ac >>> 4 &&& 15 < 9) (hB : ac &&& 15 < 9) (hk : k < 1000) (hpt : pts < 512) (hnr : ∀ p, p < 9 → nr p < 512) (hbs : bsz < 40) (hbv : ∀ i, i < 40 → bbg i < 2 ^ 31 ∧ ben i < 2 ^ 31) (hsc : ∀ p q, p < 9 → q < 9 → sc p q < 1000) (hrt : ∀ p, p < 9 → rt p < 1000) (hne : ac >>> 4 &&& 15 ≠ ac &&& 15) (hinA : pts.testBit (ac >>> 4 &&& 15) = true) (hinB : pts.testBit (ac &&& 15) = true) (hnx : ∀ p, p < 9 → (nrX nr (ac >>> 4 &&& 15) (ac &&& 15)) p < 512) (hκ : ac >>> 8 = 3) (hedg : 0 < edg) (hbit : (nr (ac >>> 4 &&& 15)).testBit (ac &&& 15) = true) (hQ1 : ∀ R2, IsR (nrX nr (ac >>> 4 &&& 15) (ac &&& 15)) (ac >>> 4 &&& 15) R2 → R2.testBit (ac &&& 15) = true → Q none (sW b pre pts (edg - 1) (nrX nr (ac >>> 4 &&& 15) (ac &&& 15)) rt sc wf ws bsz bop bbg ben suf)) (hQ2 : ∀ R2 fi se, IsR (nrX nr (ac >>> 4 &&& 15) (ac &&& 15)) (ac >>> 4 &&& 15) R2 → R2.testBit (ac &&& 15) = false → IsR (nrX nr (ac >>> 4 &&& 15) (ac &&& 15)) (ac >>> 4 &&& 15) fi → IsR (nrX nr (ac >>> 4 &&& 15) (ac &&& 15)) (ac &&& 15) se → Q none (sW b pre pts (edg - 1) (nrX nr (ac >>> 4 &&& 15) (ac &&& 15)) rt (kP sc fi se k 9) wf ws bsz bop bbg ben suf)) : Rn mprog (d + 5) n_Sto_step [.ref b, .int (nI ac), .int (nI k)] (sW b pre pts edg nr rt sc wf ws bsz bop bbg ben suf) Q := by
  refine Rn.in rfl rfl rfl ?_
  show WP _ _ _ _ 0 [.ref b, .int (nI ac), .int (nI k), .long 0, .long 0, .long 0, .long 0] [] (sW b pre pts edg nr rt sc wf ws bsz bop bbg ben suf)
  have hκ2 : ac >>> 8 = 2 ∨ ac >>> 8 = 3 := Or.inr hκ
  refine wq_iload_n rfl rfl ?_
  refine wq_stat (a := [.int (nI ac)]) (rest := []) rfl rfl rfl rfl rfl ?_
  refine r_Z_lowOf (by omega) ?_
  show WP _ _ _ _ 4 [.ref b, .int (nI ac), .int (nI k), .long 0, .long 0, .long 0, .long 0] [.int (nI (ac >>> 4 &&& 15))] (sW b pre pts edg nr rt sc wf ws bsz bop bbg ben suf)
  refine wq_istore_n (lv' := [.ref b, .int (nI ac), .int (nI k), .int (nI (ac >>> 4 &&& 15)), .long 0, .long 0, .long 0]) rfl rfl rfl ?_
  refine wq_iload_n rfl rfl ?_
  refine wq_stat (a := [.int (nI ac)]) (rest := []) rfl rfl rfl rfl rfl ?_
  refine r_Z_highOf ?_
  show WP _ _ _ _ 9 [.ref b, .int (nI ac), .int (nI k), .int (nI (ac >>> 4 &&& 15)), .long 0, .long 0, .long 0] [.int (nI (ac &&& 15))] (sW b pre pts edg nr rt sc wf ws bsz bop bbg ben suf)
  refine wq_istore (lv' := [.ref b, .int (nI ac), .int (nI k), .int (nI (ac >>> 4 &&& 15)), .int (nI (ac &&& 15)), .long 0, .long 0]) rfl rfl rfl ?_
  refine wq_aload_n rfl rfl ?_
  refine wq_getfield (v := .ref (b + 1)) rfl (sW_o0 hb) rfl ?_
  refine wq_iload_n rfl rfl ?_
  refine wq_virt (b := b + 1) (a := [.int (nI (ac >>> 4 &&& 15))]) (rest := []) rfl rfl rfl rfl rfl (sW_o1 hb) ?_
  rw [sW_n]
  refine r_Net_pieceOf (sW_ln hb) (by omega) hnr ?_ (by omega) hinA
  intro R hR
  have hRl := hR.1
  rw [← sW_n]
  show WP _ _ _ _ 19 [.ref b, .int (nI ac), .int (nI k), .int (nI (ac >>> 4 &&& 15)), .int (nI (ac &&& 15)), .long 0, .long 0] [.int (nI R)] (sW b pre pts edg nr rt sc wf ws bsz bop bbg ben suf)
  refine wq_iload rfl rfl ?_
  refine wq_stat (a := [.int (nI R), .int (nI (ac &&& 15))]) (rest := []) rfl rfl rfl rfl rfl ?_
  refine r_Z_isIn (by omega) (by omega) (fun c21 => ?_) (fun c21 => absurd c21 (by rw [hR.2.2.1 _ hA hR.2.1 _ hbit]; decide))
  show WP _ _ _ _ 24 [.ref b, .int (nI ac), .int (nI k), .int (nI (ac >>> 4 &&& 15)), .int (nI (ac &&& 15)), .long 0, .long 0] [.int (nI 1)] (sW b pre pts edg nr rt sc wf ws bsz bop bbg ben suf)
  refine wq_istore (lv' := [.ref b, .int (nI ac), .int (nI k), .int (nI (ac >>> 4 &&& 15)), .int (nI (ac &&& 15)), .int (nI 1), .long 0]) rfl rfl rfl ?_
  refine wq_aload_n rfl rfl ?_
  refine wq_getfield (v := .ref (b + 1)) rfl (sW_o0 hb) rfl ?_
  refine wq_iload_n rfl rfl ?_
  refine wq_virt (b := b + 1) (a := [.int (nI ac)]) (rest := []) rfl rfl rfl rfl rfl (sW_o1 hb) ?_
  rw [sW_n]
  refine r_Net_chg3 (sW_ln hb) hac hA hB hnr hκ2 hbit hedg ?_
  rw [← sW_n]
  show WP _ _ _ _ 34 [.ref b, .int (nI ac), .int (nI k), .int (nI (ac >>> 4 &&& 15)), .int (nI (ac &&& 15)), .int (nI 1), .long 0] [] (sW b pre pts (edg - 1) (nrX nr (ac >>> 4 &&& 15) (ac &&& 15)) rt sc wf ws bsz bop bbg ben suf)
  refine wq_aload_n rfl rfl ?_
  refine wq_getfield (v := .ref (b + 1)) rfl (sW_o0 hb) rfl ?_
  refine wq_iload_n rfl rfl ?_
  refine wq_virt (b := b + 1) (a := [.int (nI (ac >>> 4 &&& 15))]) (rest := []) rfl rfl rfl rfl rfl (sW_o1 hb) ?_
  rw [sW_n]
  refine r_Net_pieceOf (sW_ln hb) (by omega) hnx ?_ (by omega) hinA
  intro R2 hR2
  have hR2l := hR2.1
  rw [← sW_n]
  show WP _ _ _ _ 42 [.ref b, .int (nI ac), .int (nI k), .int (nI (ac >>> 4 &&& 15)), .int (nI (ac &&& 15)), .int (nI 1), .long 0] [.int (nI R2)] (sW b pre pts (edg - 1) (nrX nr (ac >>> 4 &&& 15) (ac &&& 15)) rt sc wf ws bsz bop bbg ben suf)
  refine wq_iload rfl rfl ?_
  refine wq_stat (a := [.int (nI R2), .int (nI (ac &&& 15))]) (rest := []) rfl rfl rfl rfl rfl ?_
  refine r_Z_isIn (by omega) (by omega) (fun c44 => ?_) (fun c44 => ?_)
  · skip
    show WP _ _ _ _ 47 [.ref b, .int (nI ac), .int (nI k), .int (nI (ac >>> 4 &&& 15)), .int (nI (ac &&& 15)), .int (nI 1), .long 0] [.int (nI 1)] (sW b pre pts (edg - 1) (nrX nr (ac >>> 4 &&& 15) (ac &&& 15)) rt sc wf ws bsz bop bbg ben suf)
    refine wq_istore (lv' := [.ref b, .int (nI ac), .int (nI k), .int (nI (ac >>> 4 &&& 15)), .int (nI (ac &&& 15)), .int (nI 1), .int (nI 1)]) rfl rfl rfl ?_
    refine wq_iload_n rfl rfl ?_
    refine wq_stat (a := [.int (nI ac)]) (rest := []) rfl rfl rfl rfl rfl ?_
    refine r_Z_kindOf (by omega) ?_
    show WP _ _ _ _ 53 [.ref b, .int (nI ac), .int (nI k), .int (nI (ac >>> 4 &&& 15)), .int (nI (ac &&& 15)), .int (nI 1), .int (nI 1)] [.int (nI (ac >>> 8))] (sW b pre pts (edg - 1) (nrX nr (ac >>> 4 &&& 15) (ac &&& 15)) rt sc wf ws bsz bop bbg ben suf)
    refine wq_tsw (t := 170) rfl (by rw [hκ]; decide) ?_
    refine wq_iload rfl rfl ?_
    refine wq_if_ne rfl (fun _ => ?_) (fun c => absurd c (by decide))
    refine wq_vret rfl rfl ?_
    exact hQ1 R2 hR2 c44
  · skip
    show WP _ _ _ _ 47 [.ref b, .int (nI ac), .int (nI k), .int (nI (ac >>> 4 &&& 15)), .int (nI (ac &&& 15)), .int (nI 1), .long 0] [.int (nI 0)] (sW b pre pts (edg - 1) (nrX nr (ac >>> 4 &&& 15) (ac &&& 15)) rt sc wf ws bsz bop bbg ben suf)
    refine wq_istore (lv' := [.ref b, .int (nI ac), .int (nI k), .int (nI (ac >>> 4 &&& 15)), .int (nI (ac &&& 15)), .int (nI 1), .int (nI 0)]) rfl rfl rfl ?_
    refine wq_iload_n rfl rfl ?_
    refine wq_stat (a := [.int (nI ac)]) (rest := []) rfl rfl rfl rfl rfl ?_
    refine r_Z_kindOf (by omega) ?_
    show WP _ _ _ _ 53 [.ref b, .int (nI ac), .int (nI k), .int (nI (ac >>> 4 &&& 15)), .int (nI (ac &&& 15)), .int (nI 1), .int (nI 0)] [.int (nI (ac >>> 8))] (sW b pre pts (edg - 1) (nrX nr (ac >>> 4 &&& 15) (ac &&& 15)) rt sc wf ws bsz bop bbg ben suf)
    refine wq_tsw (t := 170) rfl (by rw [hκ]; decide) ?_
    refine wq_iload rfl rfl ?_
    refine wq_if_ne rfl (fun c => absurd c (by decide)) (fun _ => ?_)
    refine wq_aload_n rfl rfl ?_
    refine wq_getfield (v := .ref (b + 3)) rfl (sW_o0 hb) rfl ?_
    refine wq_aload_n rfl rfl ?_
    refine wq_getfield (v := .ref (b + 1)) rfl (sW_o0 hb) rfl ?_
    refine wq_iload_n rfl rfl ?_
    refine wq_virt (b := b + 1) (a := [.int (nI (ac >>> 4 &&& 15))]) (rest := [.ref (b + 3)]) rfl rfl rfl rfl rfl (sW_o1 hb) ?_
    rw [sW_n]
    refine r_Net_pieceOf (sW_ln hb) (by omega) hnx ?_ (by omega) hinA
    intro fi hfi
    have hfil := hfi.1
    rw [← sW_n]
    show WP _ _ _ _ 187 [.ref b, .int (nI ac), .int (nI k), .int (nI (ac >>> 4 &&& 15)), .int (nI (ac &&& 15)), .int (nI 1), .int (nI 0)] [.int (nI fi), .ref (b + 3)] (sW b pre pts (edg - 1) (nrX nr (ac >>> 4 &&& 15) (ac &&& 15)) rt sc wf ws bsz bop bbg ben suf)
    refine wq_aload_n rfl rfl ?_
    refine wq_getfield (v := .ref (b + 1)) rfl (sW_o0 hb) rfl ?_
    refine wq_iload rfl rfl ?_
    refine wq_virt (b := b + 1) (a := [.int (nI (ac &&& 15))]) (rest := [.int (nI fi), .ref (b + 3)]) rfl rfl rfl rfl rfl (sW_o1 hb) ?_
    rw [sW_n]
    refine r_Net_pieceOf (sW_ln hb) (by omega) hnx ?_ (by omega) hinB
    intro se hse
    have hsel := hse.1
    rw [← sW_n]
    show WP _ _ _ _ 196 [.ref b, .int (nI ac), .int (nI k), .int (nI (ac >>> 4 &&& 15)), .int (nI (ac &&& 15)), .int (nI 1), .int (nI 0)] [.int (nI se), .int (nI fi), .ref (b + 3)] (sW b pre pts (edg - 1) (nrX nr (ac >>> 4 &&& 15) (ac &&& 15)) rt sc wf ws bsz bop bbg ben suf)
    refine wq_iload_n rfl rfl ?_
    refine wq_virt (b := b + 3) (a := [.int (nI fi), .int (nI se), .int (nI k)]) (rest := []) rfl rfl rfl rfl rfl (sW_o3 hb) ?_
    rw [sW_k]
    refine r_Kin_part (sW_lk hb) (by omega) (by omega) ?_
    rw [← sW_k]
    show WP _ _ _ _ 200 [.ref b, .int (nI ac), .int (nI k), .int (nI (ac >>> 4 &&& 15)), .int (nI (ac &&& 15)), .int (nI 1), .int (nI 0)] [] (sW b pre pts (edg - 1) (nrX nr (ac >>> 4 &&& 15) (ac &&& 15)) rt (kP sc fi se k 9) wf ws bsz bop bbg ben suf)
    refine wq_vret rfl rfl ?_
    exact hQ2 R2 fi se hR2 c44 hfi hse
