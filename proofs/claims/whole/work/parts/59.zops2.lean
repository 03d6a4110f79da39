/-! the class: its calls, second half -/
theorem C_bar {d : Nat} {suf : mH} {A : AS} {h : mH} {Q : Option Value → mH → Prop} (hR : CIA suf A h) {i : Nat} (hi0 : i < 2 ^ 31) {w : Nat} (hw0 : w < 2 ^ 31)  (hQ : ∀ h', CIA suf (f_bar A i w).2 h' → Q (some (.int (f_bar A i w).1)) h') : Rn mprog (d + 9) n_Z_bar [.ref 0, .int (nI i), .int (nI w)] h Q := by
  obtain ⟨tl, tb, ⟨rn, rb⟩, un, ua, kn, ka⟩ := A
  obtain ⟨ta, ra, qn, qa, σ, us, ρ, ks, pts, edg, nr, rt, sc, wf, ws, bsz, bop, bbg, ben, ptx, edx, nrx, rtx, scx, wfx, wsx, bsx, box, bbx, bex, rfl, hI⟩ := hR
  have hI0 := hI
  obtain ⟨hl, hta, hV0, hra, hqn, hu, hSu, hU, hk, hSk, hK, hNI, hbx⟩ := hI
  dsimp only at hl hta hV0 hra hqn hu hSu hU hk hSk hK hNI hbx
  have hE : EqR (rn, ra) (rn, rb) := ⟨rfl, hra⟩
  have hV : RV (rn, ra) := RV_congr hE hV0
  have hrn : rn ≤ 40 := hV.1
  obtain ⟨e1, e2, hnr0, hrt0, hsc0, hB, hO, hbv⟩ := hNI
  dsimp only at e1 e2 hnr0 hrt0 hsc0 hB hO hbv
  subst e1
  subst e2
  have hTV := stP hV0 (Nat.le_refl rn)
  have hpt := hTV.1.1
  have hnr : ∀ p, p < 9 → nr p < 512 := fun p hp => by rw [hnr0 p hp]; exact hTV.1.2.1.1 p hp
  obtain ⟨hn1, hq1⟩ := BL_BQ hV0 hB
  have hbz : ∀ i, i < bsz → bbg i < 2 ^ 31 ∧ ben i < 2 ^ 31 := fun i hi => hbv i (by omega)
  obtain ⟨ll1, ll2⟩ := BL_l hB
  have hbl : (bT (tl, tb, (rn, rb), un, ua, kn, ka)).length = bsz := ll1.symm
  refine Rn.in rfl rfl rfl ?_
  show WP _ _ _ _ 0 [.ref 0, .int (nI i), .int (nI w)] [] (zW tl ta rn ra qn qa un σ us kn ρ ks ((stR rb rn).1) ((stR rb rn).2.1) nr rt sc wf ws bsz bop bbg ben ptx edx nrx rtx scx wfx wsx bsx box bbx bex suf)
  refine wq_iload_n rfl rfl ?_
  refine wq_bipush (v := (-3)) rfl (by decide) ?_
  refine wq_ic_lt rfl (fun c3 => absurd c3 (fun z => absurd (nI_neg (k := i) (v := -3) (by decide) (by omega)) (Int32.lt_asymm z))) (fun c3 => ?_)
  refine wq_iload_n rfl rfl ?_
  refine wn_if_lt rfl (by omega) ?_
  refine wq_iload_n rfl rfl ?_
  refine wq_iconst (v := nI 2) rfl (by decide) ?_
  refine wn_ic_le rfl (by omega) (by omega) (fun c12 => ?_) (fun c12 => ?_)
  · skip
    refine wq_iload_n rfl rfl ?_
    refine wq_iconst (v := (-1)) rfl (by decide) ?_
    refine wq_ic_ne rfl (fun c19 => ?_) (fun c19 => absurd c19 (fun z => absurd (nI_neg (k := i) (v := -1) (by decide) (by omega)) (by rw [z]; decide)))
    refine wq_iload_n rfl rfl ?_
    refine wq_bipush (v := (-2)) rfl (by decide) ?_
    refine wq_ic_ne rfl (fun c36 => ?_) (fun c36 => absurd c36 (fun z => absurd (nI_neg (k := i) (v := -2) (by decide) (by omega)) (by rw [z]; decide)))
    refine wq_iload_n rfl rfl ?_
    refine wq_bipush (v := (-3)) rfl (by decide) ?_
    refine wq_ic_ne rfl (fun c53 => ?_) (fun c53 => absurd c53 (fun z => absurd (nI_neg (k := i) (v := -3) (by decide) (by omega)) (by rw [z]; decide)))
    refine wq_iload_n rfl rfl ?_
    refine wq_aload_n rfl rfl ?_
    refine wq_getfield (v := .ref 27) rfl zo_0 rfl ?_
    refine wq_getfield (v := .ref 35) rfl zo_27 rfl ?_
    refine wq_virt (b := 35) (a := []) (rest := [.int (nI i)]) rfl rfl rfl rfl rfl zo_35 ?_
    refine r_Bc_size zo_35 ?_
    show WP _ _ _ _ 89 [.ref 0, .int (nI i), .int (nI w)] [.int (nI bsz), .int (nI i)] (zW tl ta rn ra qn qa un σ us kn ρ ks ((stR rb rn).1) ((stR rb rn).2.1) nr rt sc wf ws bsz bop bbg ben ptx edx nrx rtx scx wfx wsx bsx box bbx bex suf)
    refine wn_ic_lt rfl (by omega) (by omega) (fun c89 => ?_) (fun c89 => ?_)
    · skip
      refine wq_iload_n rfl rfl ?_
      refine wn_if_ne rfl (by omega) (fun c96 => ?_) (fun c96 => ?_)
      · skip
        refine wq_iload_n rfl rfl ?_
        refine wq_iconst (v := nI 1) rfl (by decide) ?_
        refine wn_ic_ne rfl (by omega) (by omega) (fun c113 => ?_) (fun c113 => ?_)
        · skip
          refine wq_aload_n rfl rfl ?_
          refine wq_getfield (v := .ref 27) rfl zo_0 rfl ?_
          refine wq_getfield (v := .ref 35) rfl zo_27 rfl ?_
          refine wq_iload_n rfl rfl ?_
          refine wq_aload_n rfl rfl ?_
          refine wq_getfield (v := .ref 3) rfl zo_0 rfl ?_
          refine wq_virt (b := 3) (a := []) (rest := [.int (nI i), .ref 35]) rfl rfl rfl rfl rfl zo_3 ?_
          refine r_Row_size (ra := fun _ => 0) zo_3 ?_
          show WP _ _ _ _ 145 [.ref 0, .int (nI i), .int (nI w)] [.int (nI rn), .int (nI i), .ref 35] (zW tl ta rn ra qn qa un σ us kn ρ ks ((stR rb rn).1) ((stR rb rn).2.1) nr rt sc wf ws bsz bop bbg ben ptx edx nrx rtx scx wfx wsx bsx box bbx bex suf)
          refine wq_virt (b := 35) (a := [.int (nI i), .int (nI rn)]) (rest := []) rfl rfl rfl rfl rfl zo_35 ?_
          refine r_Bars_lengthOf zo_35 zo_36b zo_37b hn1 hrn hq1 (by omega) ?_
          show WP _ _ _ _ 148 [.ref 0, .int (nI i), .int (nI w)] [.int (nI (lnN rn (bbg i) (ben i)))] (zW tl ta rn ra qn qa un σ us kn ρ ks ((stR rb rn).1) ((stR rb rn).2.1) nr rt sc wf ws bsz bop bbg ben ptx edx nrx rtx scx wfx wsx bsx box bbx bex suf)
          refine wq_iret rfl trivial ?_
          have hl1 : bbg i = lF (bT (tl, tb, (rn, rb), un, ua, kn, ka)) i := (ll2 i (by omega)).1
          have hl2 : ben i = lG (bT (tl, tb, (rn, rb), un, ua, kn, ka)) i := (ll2 i (by omega)).2
          rw [hl1, hl2]
          exact fin_ (P := CIA suf) (A' := (tl, tb, (rn, rb), un, ua, kn, ka)) hQ (by unfold f_bar; (try dsimp only); (repeat first | rw [if_pos (by omega)] | rw [if_neg (by omega)]); try rfl) ⟨_, _, _, _, _, _, _, _, _, _, _, _, _, _, _, _, _, _, _, _, _, _, _, _, _, _, _, _, _, _, rfl, hI0⟩
        · skip
          refine wq_aload_n rfl rfl ?_
          refine wq_getfield (v := .ref 27) rfl zo_0 rfl ?_
          refine wq_getfield (v := .ref 35) rfl zo_27 rfl ?_
          refine wq_iload_n rfl rfl ?_
          refine wq_virt (b := 35) (a := [.int (nI i)]) (rest := []) rfl rfl rfl rfl rfl zo_35 ?_
          refine r_Bars_endOf zo_35 zo_36b zo_37b hn1 (by omega) ?_
          show WP _ _ _ _ 127 [.ref 0, .int (nI i), .int (nI w)] [.int (nI (ben i))] (zW tl ta rn ra qn qa un σ us kn ρ ks ((stR rb rn).1) ((stR rb rn).2.1) nr rt sc wf ws bsz bop bbg ben ptx edx nrx rtx scx wfx wsx bsx box bbx bex suf)
          refine wq_goto rfl ?_
          refine wq_iret rfl trivial ?_
          have hl1 : bbg i = lF (bT (tl, tb, (rn, rb), un, ua, kn, ka)) i := (ll2 i (by omega)).1
          have hl2 : ben i = lG (bT (tl, tb, (rn, rb), un, ua, kn, ka)) i := (ll2 i (by omega)).2
          rw [hl2]
          exact fin_ (P := CIA suf) (A' := (tl, tb, (rn, rb), un, ua, kn, ka)) hQ (by unfold f_bar; (try dsimp only); (repeat first | rw [if_pos (by omega)] | rw [if_neg (by omega)]); try rfl) ⟨_, _, _, _, _, _, _, _, _, _, _, _, _, _, _, _, _, _, _, _, _, _, _, _, _, _, _, _, _, _, rfl, hI0⟩
      · skip
        refine wq_aload_n rfl rfl ?_
        refine wq_getfield (v := .ref 27) rfl zo_0 rfl ?_
        refine wq_getfield (v := .ref 35) rfl zo_27 rfl ?_
        refine wq_iload_n rfl rfl ?_
        refine wq_virt (b := 35) (a := [.int (nI i)]) (rest := []) rfl rfl rfl rfl rfl zo_35 ?_
        refine r_Bars_beginOf zo_35 zo_36b zo_37b hn1 (by omega) ?_
        show WP _ _ _ _ 110 [.ref 0, .int (nI i), .int (nI w)] [.int (nI (bbg i))] (zW tl ta rn ra qn qa un σ us kn ρ ks ((stR rb rn).1) ((stR rb rn).2.1) nr rt sc wf ws bsz bop bbg ben ptx edx nrx rtx scx wfx wsx bsx box bbx bex suf)
        refine wq_iret rfl trivial ?_
        have hl1 : bbg i = lF (bT (tl, tb, (rn, rb), un, ua, kn, ka)) i := (ll2 i (by omega)).1
        have hl2 : ben i = lG (bT (tl, tb, (rn, rb), un, ua, kn, ka)) i := (ll2 i (by omega)).2
        rw [hl1]
        exact fin_ (P := CIA suf) (A' := (tl, tb, (rn, rb), un, ua, kn, ka)) hQ (by unfold f_bar; (try dsimp only); (repeat first | rw [if_pos (by omega)] | rw [if_neg (by omega)]); try rfl) ⟨_, _, _, _, _, _, _, _, _, _, _, _, _, _, _, _, _, _, _, _, _, _, _, _, _, _, _, _, _, _, rfl, hI0⟩
    · skip
      refine wq_bipush (v := (-4)) rfl (by decide) ?_
      refine wq_iret rfl trivial ?_
      exact fin_ (P := CIA suf) (A' := (tl, tb, (rn, rb), un, ua, kn, ka)) hQ (by unfold f_bar; (try dsimp only); (repeat first | rw [if_pos (by omega)] | rw [if_neg (by omega)]); try rfl) ⟨_, _, _, _, _, _, _, _, _, _, _, _, _, _, _, _, _, _, _, _, _, _, _, _, _, _, _, _, _, _, rfl, hI0⟩
  · skip
    refine wq_iconst (v := (-1)) rfl (by decide) ?_
    refine wq_iret rfl trivial ?_
    exact fin_ (P := CIA suf) (A' := (tl, tb, (rn, rb), un, ua, kn, ka)) hQ (by unfold f_bar; (try dsimp only); (repeat first | rw [if_pos (by omega)] | rw [if_neg (by omega)]); try rfl) ⟨_, _, _, _, _, _, _, _, _, _, _, _, _, _, _, _, _, _, _, _, _, _, _, _, _, _, _, _, _, _, rfl, hI0⟩
theorem C_bar1 {d : Nat} {suf : mH} {A : AS} {h : mH} {Q : Option Value → mH → Prop} (hR : CIA suf A h) {w : Nat} (hw0 : w < 2 ^ 31)  (hQ : ∀ h', CIA suf (f_barN A 1 w).2 h' → Q (some (.int (f_barN A 1 w).1)) h') : Rn mprog (d + 9) n_Z_bar [.ref 0, .int ((-1)), .int (nI w)] h Q := by
  obtain ⟨tl, tb, ⟨rn, rb⟩, un, ua, kn, ka⟩ := A
  obtain ⟨ta, ra, qn, qa, σ, us, ρ, ks, pts, edg, nr, rt, sc, wf, ws, bsz, bop, bbg, ben, ptx, edx, nrx, rtx, scx, wfx, wsx, bsx, box, bbx, bex, rfl, hI⟩ := hR
  have hI0 := hI
  obtain ⟨hl, hta, hV0, hra, hqn, hu, hSu, hU, hk, hSk, hK, hNI, hbx⟩ := hI
  dsimp only at hl hta hV0 hra hqn hu hSu hU hk hSk hK hNI hbx
  have hE : EqR (rn, ra) (rn, rb) := ⟨rfl, hra⟩
  have hV : RV (rn, ra) := RV_congr hE hV0
  have hrn : rn ≤ 40 := hV.1
  obtain ⟨e1, e2, hnr0, hrt0, hsc0, hB, hO, hbv⟩ := hNI
  dsimp only at e1 e2 hnr0 hrt0 hsc0 hB hO hbv
  subst e1
  subst e2
  have hTV := stP hV0 (Nat.le_refl rn)
  have hpt := hTV.1.1
  have hnr : ∀ p, p < 9 → nr p < 512 := fun p hp => by rw [hnr0 p hp]; exact hTV.1.2.1.1 p hp
  obtain ⟨hn1, hq1⟩ := BL_BQ hV0 hB
  have hbz : ∀ i, i < bsz → bbg i < 2 ^ 31 ∧ ben i < 2 ^ 31 := fun i hi => hbv i (by omega)
  obtain ⟨ll1, ll2⟩ := BL_l hB
  have hbl : (bT (tl, tb, (rn, rb), un, ua, kn, ka)).length = bsz := ll1.symm
  have hble : bop ≤ bsz := by rw [hO, ← BL_op hV0 hB]; exact cntA_le _ _
  refine Rn.in rfl rfl rfl ?_
  show WP _ _ _ _ 0 [.ref 0, .int ((-1)), .int (nI w)] [] (zW tl ta rn ra qn qa un σ us kn ρ ks ((stR rb rn).1) ((stR rb rn).2.1) nr rt sc wf ws bsz bop bbg ben ptx edx nrx rtx scx wfx wsx bsx box bbx bex suf)
  refine wq_iload_n rfl rfl ?_
  refine wq_bipush (v := (-3)) rfl (by decide) ?_
  refine wq_ic_lt rfl (fun c3 => absurd c3 (by decide)) (fun c3 => ?_)
  refine wq_iload_n rfl rfl ?_
  refine wn_if_lt rfl (by omega) ?_
  refine wq_iload_n rfl rfl ?_
  refine wq_iconst (v := nI 2) rfl (by decide) ?_
  refine wn_ic_le rfl (by omega) (by omega) (fun c12 => ?_) (fun c12 => ?_)
  · skip
    refine wq_iload_n rfl rfl ?_
    refine wq_iconst (v := (-1)) rfl (by decide) ?_
    refine wq_ic_ne rfl (fun c19 => absurd c19 (fun z => z rfl)) (fun c19 => ?_)
    refine wq_aload_n rfl rfl ?_
    refine wq_getfield (v := .ref 27) rfl zo_0 rfl ?_
    refine wq_getfield (v := .ref 35) rfl zo_27 rfl ?_
    refine wq_virt (b := 35) (a := []) (rest := []) rfl rfl rfl rfl rfl zo_35 ?_
    refine r_Bc_size zo_35 ?_
    show WP _ _ _ _ 32 [.ref 0, .int ((-1)), .int (nI w)] [.int (nI bsz)] (zW tl ta rn ra qn qa un σ us kn ρ ks ((stR rb rn).1) ((stR rb rn).2.1) nr rt sc wf ws bsz bop bbg ben ptx edx nrx rtx scx wfx wsx bsx box bbx bex suf)
    refine wq_iret rfl trivial ?_
    have hop : bop = (opT (sT (tl, tb, (rn, rb), un, ua, kn, ka))).length := hO
    exact fin_ (P := CIA suf) (A' := (tl, tb, (rn, rb), un, ua, kn, ka)) hQ (by unfold f_barN; (try dsimp only); rw [if_neg (by omega), if_pos rfl, hbl]) ⟨_, _, _, _, _, _, _, _, _, _, _, _, _, _, _, _, _, _, _, _, _, _, _, _, _, _, _, _, _, _, rfl, hI0⟩
  · skip
    refine wq_iconst (v := (-1)) rfl (by decide) ?_
    refine wq_iret rfl trivial ?_
    exact fin_ (P := CIA suf) (A' := (tl, tb, (rn, rb), un, ua, kn, ka)) hQ (by unfold f_barN; (try dsimp only); (repeat first | rw [if_pos (by omega)] | rw [if_neg (by omega)]); try rfl) ⟨_, _, _, _, _, _, _, _, _, _, _, _, _, _, _, _, _, _, _, _, _, _, _, _, _, _, _, _, _, _, rfl, hI0⟩
theorem C_bar2 {d : Nat} {suf : mH} {A : AS} {h : mH} {Q : Option Value → mH → Prop} (hR : CIA suf A h) {w : Nat} (hw0 : w < 2 ^ 31)  (hQ : ∀ h', CIA suf (f_barN A 2 w).2 h' → Q (some (.int (f_barN A 2 w).1)) h') : Rn mprog (d + 9) n_Z_bar [.ref 0, .int ((-2)), .int (nI w)] h Q := by
  obtain ⟨tl, tb, ⟨rn, rb⟩, un, ua, kn, ka⟩ := A
  obtain ⟨ta, ra, qn, qa, σ, us, ρ, ks, pts, edg, nr, rt, sc, wf, ws, bsz, bop, bbg, ben, ptx, edx, nrx, rtx, scx, wfx, wsx, bsx, box, bbx, bex, rfl, hI⟩ := hR
  have hI0 := hI
  obtain ⟨hl, hta, hV0, hra, hqn, hu, hSu, hU, hk, hSk, hK, hNI, hbx⟩ := hI
  dsimp only at hl hta hV0 hra hqn hu hSu hU hk hSk hK hNI hbx
  have hE : EqR (rn, ra) (rn, rb) := ⟨rfl, hra⟩
  have hV : RV (rn, ra) := RV_congr hE hV0
  have hrn : rn ≤ 40 := hV.1
  obtain ⟨e1, e2, hnr0, hrt0, hsc0, hB, hO, hbv⟩ := hNI
  dsimp only at e1 e2 hnr0 hrt0 hsc0 hB hO hbv
  subst e1
  subst e2
  have hTV := stP hV0 (Nat.le_refl rn)
  have hpt := hTV.1.1
  have hnr : ∀ p, p < 9 → nr p < 512 := fun p hp => by rw [hnr0 p hp]; exact hTV.1.2.1.1 p hp
  obtain ⟨hn1, hq1⟩ := BL_BQ hV0 hB
  have hbz : ∀ i, i < bsz → bbg i < 2 ^ 31 ∧ ben i < 2 ^ 31 := fun i hi => hbv i (by omega)
  obtain ⟨ll1, ll2⟩ := BL_l hB
  have hbl : (bT (tl, tb, (rn, rb), un, ua, kn, ka)).length = bsz := ll1.symm
  have hble : bop ≤ bsz := by rw [hO, ← BL_op hV0 hB]; exact cntA_le _ _
  refine Rn.in rfl rfl rfl ?_
  show WP _ _ _ _ 0 [.ref 0, .int ((-2)), .int (nI w)] [] (zW tl ta rn ra qn qa un σ us kn ρ ks ((stR rb rn).1) ((stR rb rn).2.1) nr rt sc wf ws bsz bop bbg ben ptx edx nrx rtx scx wfx wsx bsx box bbx bex suf)
  refine wq_iload_n rfl rfl ?_
  refine wq_bipush (v := (-3)) rfl (by decide) ?_
  refine wq_ic_lt rfl (fun c3 => absurd c3 (by decide)) (fun c3 => ?_)
  refine wq_iload_n rfl rfl ?_
  refine wn_if_lt rfl (by omega) ?_
  refine wq_iload_n rfl rfl ?_
  refine wq_iconst (v := nI 2) rfl (by decide) ?_
  refine wn_ic_le rfl (by omega) (by omega) (fun c12 => ?_) (fun c12 => ?_)
  · skip
    refine wq_iload_n rfl rfl ?_
    refine wq_iconst (v := (-1)) rfl (by decide) ?_
    refine wq_ic_ne rfl (fun c19 => ?_) (fun c19 => absurd c19 (by decide))
    refine wq_iload_n rfl rfl ?_
    refine wq_bipush (v := (-2)) rfl (by decide) ?_
    refine wq_ic_ne rfl (fun c36 => absurd c36 (fun z => z rfl)) (fun c36 => ?_)
    refine wq_aload_n rfl rfl ?_
    refine wq_getfield (v := .ref 27) rfl zo_0 rfl ?_
    refine wq_getfield (v := .ref 35) rfl zo_27 rfl ?_
    refine wq_virt (b := 35) (a := []) (rest := []) rfl rfl rfl rfl rfl zo_35 ?_
    refine r_Bc_open zo_35 ?_
    show WP _ _ _ _ 49 [.ref 0, .int ((-2)), .int (nI w)] [.int (nI bop)] (zW tl ta rn ra qn qa un σ us kn ρ ks ((stR rb rn).1) ((stR rb rn).2.1) nr rt sc wf ws bsz bop bbg ben ptx edx nrx rtx scx wfx wsx bsx box bbx bex suf)
    refine wq_iret rfl trivial ?_
    have hop : bop = (opT (sT (tl, tb, (rn, rb), un, ua, kn, ka))).length := hO
    exact fin_ (P := CIA suf) (A' := (tl, tb, (rn, rb), un, ua, kn, ka)) hQ (by unfold f_barN; (try dsimp only); rw [if_neg (by omega), if_neg (by decide), if_pos rfl, ← hop]) ⟨_, _, _, _, _, _, _, _, _, _, _, _, _, _, _, _, _, _, _, _, _, _, _, _, _, _, _, _, _, _, rfl, hI0⟩
  · skip
    refine wq_iconst (v := (-1)) rfl (by decide) ?_
    refine wq_iret rfl trivial ?_
    exact fin_ (P := CIA suf) (A' := (tl, tb, (rn, rb), un, ua, kn, ka)) hQ (by unfold f_barN; (try dsimp only); (repeat first | rw [if_pos (by omega)] | rw [if_neg (by omega)]); try rfl) ⟨_, _, _, _, _, _, _, _, _, _, _, _, _, _, _, _, _, _, _, _, _, _, _, _, _, _, _, _, _, _, rfl, hI0⟩
theorem C_bar3 {d : Nat} {suf : mH} {A : AS} {h : mH} {Q : Option Value → mH → Prop} (hR : CIA suf A h) {w : Nat} (hw0 : w < 2 ^ 31)  (hQ : ∀ h', CIA suf (f_barN A 3 w).2 h' → Q (some (.int (f_barN A 3 w).1)) h') : Rn mprog (d + 9) n_Z_bar [.ref 0, .int ((-3)), .int (nI w)] h Q := by
  obtain ⟨tl, tb, ⟨rn, rb⟩, un, ua, kn, ka⟩ := A
  obtain ⟨ta, ra, qn, qa, σ, us, ρ, ks, pts, edg, nr, rt, sc, wf, ws, bsz, bop, bbg, ben, ptx, edx, nrx, rtx, scx, wfx, wsx, bsx, box, bbx, bex, rfl, hI⟩ := hR
  have hI0 := hI
  obtain ⟨hl, hta, hV0, hra, hqn, hu, hSu, hU, hk, hSk, hK, hNI, hbx⟩ := hI
  dsimp only at hl hta hV0 hra hqn hu hSu hU hk hSk hK hNI hbx
  have hE : EqR (rn, ra) (rn, rb) := ⟨rfl, hra⟩
  have hV : RV (rn, ra) := RV_congr hE hV0
  have hrn : rn ≤ 40 := hV.1
  obtain ⟨e1, e2, hnr0, hrt0, hsc0, hB, hO, hbv⟩ := hNI
  dsimp only at e1 e2 hnr0 hrt0 hsc0 hB hO hbv
  subst e1
  subst e2
  have hTV := stP hV0 (Nat.le_refl rn)
  have hpt := hTV.1.1
  have hnr : ∀ p, p < 9 → nr p < 512 := fun p hp => by rw [hnr0 p hp]; exact hTV.1.2.1.1 p hp
  obtain ⟨hn1, hq1⟩ := BL_BQ hV0 hB
  have hbz : ∀ i, i < bsz → bbg i < 2 ^ 31 ∧ ben i < 2 ^ 31 := fun i hi => hbv i (by omega)
  obtain ⟨ll1, ll2⟩ := BL_l hB
  have hbl : (bT (tl, tb, (rn, rb), un, ua, kn, ka)).length = bsz := ll1.symm
  have hble : bop ≤ bsz := by rw [hO, ← BL_op hV0 hB]; exact cntA_le _ _
  refine Rn.in rfl rfl rfl ?_
  show WP _ _ _ _ 0 [.ref 0, .int ((-3)), .int (nI w)] [] (zW tl ta rn ra qn qa un σ us kn ρ ks ((stR rb rn).1) ((stR rb rn).2.1) nr rt sc wf ws bsz bop bbg ben ptx edx nrx rtx scx wfx wsx bsx box bbx bex suf)
  refine wq_iload_n rfl rfl ?_
  refine wq_bipush (v := (-3)) rfl (by decide) ?_
  refine wq_ic_lt rfl (fun c3 => absurd c3 (by decide)) (fun c3 => ?_)
  refine wq_iload_n rfl rfl ?_
  refine wn_if_lt rfl (by omega) ?_
  refine wq_iload_n rfl rfl ?_
  refine wq_iconst (v := nI 2) rfl (by decide) ?_
  refine wn_ic_le rfl (by omega) (by omega) (fun c12 => ?_) (fun c12 => ?_)
  · skip
    refine wq_iload_n rfl rfl ?_
    refine wq_iconst (v := (-1)) rfl (by decide) ?_
    refine wq_ic_ne rfl (fun c19 => ?_) (fun c19 => absurd c19 (by decide))
    refine wq_iload_n rfl rfl ?_
    refine wq_bipush (v := (-2)) rfl (by decide) ?_
    refine wq_ic_ne rfl (fun c36 => ?_) (fun c36 => absurd c36 (by decide))
    refine wq_iload_n rfl rfl ?_
    refine wq_bipush (v := (-3)) rfl (by decide) ?_
    refine wq_ic_ne rfl (fun c53 => absurd c53 (fun z => z rfl)) (fun c53 => ?_)
    refine wq_aload_n rfl rfl ?_
    refine wq_getfield (v := .ref 27) rfl zo_0 rfl ?_
    refine wq_getfield (v := .ref 35) rfl zo_27 rfl ?_
    refine wq_virt (b := 35) (a := []) (rest := []) rfl rfl rfl rfl rfl zo_35 ?_
    refine r_Bc_size zo_35 ?_
    show WP _ _ _ _ 66 [.ref 0, .int ((-3)), .int (nI w)] [.int (nI bsz)] (zW tl ta rn ra qn qa un σ us kn ρ ks ((stR rb rn).1) ((stR rb rn).2.1) nr rt sc wf ws bsz bop bbg ben ptx edx nrx rtx scx wfx wsx bsx box bbx bex suf)
    refine wq_aload_n rfl rfl ?_
    refine wq_getfield (v := .ref 27) rfl zo_0 rfl ?_
    refine wq_getfield (v := .ref 35) rfl zo_27 rfl ?_
    refine wq_virt (b := 35) (a := []) (rest := [.int (nI bsz)]) rfl rfl rfl rfl rfl zo_35 ?_
    refine r_Bc_open zo_35 ?_
    show WP _ _ _ _ 76 [.ref 0, .int ((-3)), .int (nI w)] [.int (nI bop), .int (nI bsz)] (zW tl ta rn ra qn qa un σ us kn ρ ks ((stR rb rn).1) ((stR rb rn).2.1) nr rt sc wf ws bsz bop bbg ben ptx edx nrx rtx scx wfx wsx bsx box bbx bex suf)
    refine wn_isub rfl (by omega) ?_
    refine wq_iret rfl trivial ?_
    have hop : bop = (opT (sT (tl, tb, (rn, rb), un, ua, kn, ka))).length := hO
    exact fin_ (P := CIA suf) (A' := (tl, tb, (rn, rb), un, ua, kn, ka)) hQ (by unfold f_barN; (try dsimp only); rw [if_neg (by omega), if_neg (by decide), if_neg (by decide), hbl, ← hop]) ⟨_, _, _, _, _, _, _, _, _, _, _, _, _, _, _, _, _, _, _, _, _, _, _, _, _, _, _, _, _, _, rfl, hI0⟩
  · skip
    refine wq_iconst (v := (-1)) rfl (by decide) ?_
    refine wq_iret rfl trivial ?_
    exact fin_ (P := CIA suf) (A' := (tl, tb, (rn, rb), un, ua, kn, ka)) hQ (by unfold f_barN; (try dsimp only); (repeat first | rw [if_pos (by omega)] | rw [if_neg (by omega)]); try rfl) ⟨_, _, _, _, _, _, _, _, _, _, _, _, _, _, _, _, _, _, _, _, _, _, _, _, _, _, _, _, _, _, rfl, hI0⟩
theorem C_bar_neg {d : Nat} {suf : mH} {A : AS} {h : mH} {Q : Option Value → mH → Prop} (hR : CIA suf A h) {v1 v2 : Int32} (hneg : v1 < -3 ∨ v2 < 0) (hQ : ∀ h', CIA suf A h' → Q (some (.int (-1))) h') : Rn mprog (d + 9) n_Z_bar [.ref 0, .int v1, .int v2] h Q := by
  obtain ⟨tl, tb, ⟨rn, rb⟩, un, ua, kn, ka⟩ := A
  obtain ⟨ta, ra, qn, qa, σ, us, ρ, ks, pts, edg, nr, rt, sc, wf, ws, bsz, bop, bbg, ben, ptx, edx, nrx, rtx, scx, wfx, wsx, bsx, box, bbx, bex, rfl, hI⟩ := hR
  have hI0 := hI
  obtain ⟨hl, hta, hV0, hra, hqn, hu, hSu, hU, hk, hSk, hK, hNI, hbx⟩ := hI
  dsimp only at hl hta hV0 hra hqn hu hSu hU hk hSk hK hNI hbx
  have hE : EqR (rn, ra) (rn, rb) := ⟨rfl, hra⟩
  have hV : RV (rn, ra) := RV_congr hE hV0
  have hrn : rn ≤ 40 := hV.1
  obtain ⟨e1, e2, hnr0, hrt0, hsc0, hB, hO, hbv⟩ := hNI
  dsimp only at e1 e2 hnr0 hrt0 hsc0 hB hO hbv
  subst e1
  subst e2
  have hTV := stP hV0 (Nat.le_refl rn)
  have hpt := hTV.1.1
  have hnr : ∀ p, p < 9 → nr p < 512 := fun p hp => by rw [hnr0 p hp]; exact hTV.1.2.1.1 p hp
  obtain ⟨hn1, hq1⟩ := BL_BQ hV0 hB
  have hbz : ∀ i, i < bsz → bbg i < 2 ^ 31 ∧ ben i < 2 ^ 31 := fun i hi => hbv i (by omega)
  rcases hneg with hneg | hneg
  · skip
    refine Rn.in rfl rfl rfl ?_
    show WP _ _ _ _ 0 [.ref 0, .int v1, .int v2] [] (zW tl ta rn ra qn qa un σ us kn ρ ks ((stR rb rn).1) ((stR rb rn).2.1) nr rt sc wf ws bsz bop bbg ben ptx edx nrx rtx scx wfx wsx bsx box bbx bex suf)
    refine wq_iload_n rfl rfl ?_
    refine wq_bipush (v := (-3)) rfl (by decide) ?_
    refine wq_ic_lt rfl (fun c3 => ?_) (fun c3 => absurd c3 (fun z => z hneg))
    refine wq_iconst (v := (-1)) rfl (by decide) ?_
    refine wq_iret rfl trivial ?_
    exact hQ _ ⟨_, _, _, _, _, _, _, _, _, _, _, _, _, _, _, _, _, _, _, _, _, _, _, _, _, _, _, _, _, _, rfl, hI0⟩
  · skip
    refine Rn.in rfl rfl rfl ?_
    show WP _ _ _ _ 0 [.ref 0, .int v1, .int v2] [] (zW tl ta rn ra qn qa un σ us kn ρ ks ((stR rb rn).1) ((stR rb rn).2.1) nr rt sc wf ws bsz bop bbg ben ptx edx nrx rtx scx wfx wsx bsx box bbx bex suf)
    refine wq_iload_n rfl rfl ?_
    refine wq_bipush (v := (-3)) rfl (by decide) ?_
    refine wq_ic_lt rfl (fun c3 => ?_) (fun c3 => ?_)
    · skip
      refine wq_iconst (v := (-1)) rfl (by decide) ?_
      refine wq_iret rfl trivial ?_
      exact hQ _ ⟨_, _, _, _, _, _, _, _, _, _, _, _, _, _, _, _, _, _, _, _, _, _, _, _, _, _, _, _, _, _, rfl, hI0⟩
    · skip
      refine wq_iload_n rfl rfl ?_
      refine wq_if_lt rfl (fun c7 => ?_) (fun c7 => absurd c7 (fun z => z hneg))
      refine wq_iconst (v := (-1)) rfl (by decide) ?_
      refine wq_iret rfl trivial ?_
      exact hQ _ ⟨_, _, _, _, _, _, _, _, _, _, _, _, _, _, _, _, _, _, _, _, _, _, _, _, _, _, _, _, _, _, rfl, hI0⟩
theorem C_lasting {d : Nat} {suf : mH} {A : AS} {h : mH} {Q : Option Value → mH → Prop} (hR : CIA suf A h) {i : Nat} (hi0 : i < 2 ^ 31) {j : Nat} (hj0 : j < 2 ^ 31)  (hQ : ∀ h', CIA suf (f_last A i j).2 h' → Q (some (.int (f_last A i j).1)) h') : Rn mprog (d + 9) n_Z_lasting [.ref 0, .int (nI i), .int (nI j)] h Q := by
  obtain ⟨tl, tb, ⟨rn, rb⟩, un, ua, kn, ka⟩ := A
  obtain ⟨ta, ra, qn, qa, σ, us, ρ, ks, pts, edg, nr, rt, sc, wf, ws, bsz, bop, bbg, ben, ptx, edx, nrx, rtx, scx, wfx, wsx, bsx, box, bbx, bex, rfl, hI⟩ := hR
  have hI0 := hI
  obtain ⟨hl, hta, hV0, hra, hqn, hu, hSu, hU, hk, hSk, hK, hNI, hbx⟩ := hI
  dsimp only at hl hta hV0 hra hqn hu hSu hU hk hSk hK hNI hbx
  have hE : EqR (rn, ra) (rn, rb) := ⟨rfl, hra⟩
  have hV : RV (rn, ra) := RV_congr hE hV0
  have hrn : rn ≤ 40 := hV.1
  obtain ⟨e1, e2, hnr0, hrt0, hsc0, hB, hO, hbv⟩ := hNI
  dsimp only at e1 e2 hnr0 hrt0 hsc0 hB hO hbv
  subst e1
  subst e2
  have hTV := stP hV0 (Nat.le_refl rn)
  have hpt := hTV.1.1
  have hnr : ∀ p, p < 9 → nr p < 512 := fun p hp => by rw [hnr0 p hp]; exact hTV.1.2.1.1 p hp
  obtain ⟨hn1, hq1⟩ := BL_BQ hV0 hB
  have hbz : ∀ i, i < bsz → bbg i < 2 ^ 31 ∧ ben i < 2 ^ 31 := fun i hi => hbv i (by omega)
  refine Rn.in rfl rfl rfl ?_
  show WP _ _ _ _ 0 [.ref 0, .int (nI i), .int (nI j)] [] (zW tl ta rn ra qn qa un σ us kn ρ ks ((stR rb rn).1) ((stR rb rn).2.1) nr rt sc wf ws bsz bop bbg ben ptx edx nrx rtx scx wfx wsx bsx box bbx bex suf)
  refine wq_iload_n rfl rfl ?_
  refine wn_if_lt rfl (by omega) ?_
  refine wq_iload_n rfl rfl ?_
  refine wq_aload_n rfl rfl ?_
  refine wq_getfield (v := .ref 3) rfl zo_0 rfl ?_
  refine wq_virt (b := 3) (a := []) (rest := [.int (nI j)]) rfl rfl rfl rfl rfl zo_3 ?_
  refine r_Row_size (ra := fun _ => 0) zo_3 ?_
  show WP _ _ _ _ 12 [.ref 0, .int (nI i), .int (nI j)] [.int (nI rn), .int (nI j)] (zW tl ta rn ra qn qa un σ us kn ρ ks ((stR rb rn).1) ((stR rb rn).2.1) nr rt sc wf ws bsz bop bbg ben ptx edx nrx rtx scx wfx wsx bsx box bbx bex suf)
  refine wn_ic_gt rfl (by omega) (by omega) (fun c12 => ?_) (fun c12 => ?_)
  · skip
    refine wq_iconst (v := (-1)) rfl (by decide) ?_
    refine wq_iret rfl trivial ?_
    exact fin_ (P := CIA suf) (A' := (tl, tb, (rn, rb), un, ua, kn, ka)) hQ (by unfold f_last; (try dsimp only); (repeat first | rw [if_pos (by omega)] | rw [if_neg (by omega)]); try rfl) ⟨_, _, _, _, _, _, _, _, _, _, _, _, _, _, _, _, _, _, _, _, _, _, _, _, _, _, _, _, _, _, rfl, hI0⟩
  · skip
    refine wq_iload_n rfl rfl ?_
    refine wq_iload_n rfl rfl ?_
    refine wn_ic_le rfl (by omega) (by omega) (fun c17 => ?_) (fun c17 => ?_)
    · skip
      refine wq_aload_n rfl rfl ?_
      refine wq_getfield (v := .ref 27) rfl zo_0 rfl ?_
      refine wq_getfield (v := .ref 35) rfl zo_27 rfl ?_
      refine wq_iload_n rfl rfl ?_
      refine wq_iload_n rfl rfl ?_
      refine wq_aload_n rfl rfl ?_
      refine wq_getfield (v := .ref 3) rfl zo_0 rfl ?_
      refine wq_virt (b := 3) (a := []) (rest := [.int (nI j), .int (nI i), .ref 35]) rfl rfl rfl rfl rfl zo_3 ?_
      refine r_Row_size (ra := fun _ => 0) zo_3 ?_
      show WP _ _ _ _ 38 [.ref 0, .int (nI i), .int (nI j)] [.int (nI rn), .int (nI j), .int (nI i), .ref 35] (zW tl ta rn ra qn qa un σ us kn ρ ks ((stR rb rn).1) ((stR rb rn).2.1) nr rt sc wf ws bsz bop bbg ben ptx edx nrx rtx scx wfx wsx bsx box bbx bex suf)
      refine wq_virt (b := 35) (a := [.int (nI i), .int (nI j), .int (nI rn)]) (rest := []) rfl rfl rfl rfl rfl zo_35 ?_
      refine r_Bars_spanning zo_35 zo_36b zo_37b hn1 hrn hq1 (by omega) (by omega) ?_
      show WP _ _ _ _ 41 [.ref 0, .int (nI i), .int (nI j)] [.int (nI (cntA (fun jj => Nat.ble (bbg jj) i && Nat.ble j (laE rn (ben jj))) bsz))] (zW tl ta rn ra qn qa un σ us kn ρ ks ((stR rb rn).1) ((stR rb rn).2.1) nr rt sc wf ws bsz bop bbg ben ptx edx nrx rtx scx wfx wsx bsx box bbx bex suf)
      refine wq_iret rfl trivial ?_
      rw [BL_cn (fun f g => Nat.ble f i && Nat.ble j (laE rn g)) hB]
      exact fin_ (P := CIA suf) (A' := (tl, tb, (rn, rb), un, ua, kn, ka)) hQ (by unfold f_last; (try dsimp only); (repeat first | rw [if_pos (by omega)] | rw [if_neg (by omega)]); try rfl) ⟨_, _, _, _, _, _, _, _, _, _, _, _, _, _, _, _, _, _, _, _, _, _, _, _, _, _, _, _, _, _, rfl, hI0⟩
    · skip
      refine wq_iconst (v := (-1)) rfl (by decide) ?_
      refine wq_iret rfl trivial ?_
      exact fin_ (P := CIA suf) (A' := (tl, tb, (rn, rb), un, ua, kn, ka)) hQ (by unfold f_last; (try dsimp only); (repeat first | rw [if_pos (by omega)] | rw [if_neg (by omega)]); try rfl) ⟨_, _, _, _, _, _, _, _, _, _, _, _, _, _, _, _, _, _, _, _, _, _, _, _, _, _, _, _, _, _, rfl, hI0⟩
theorem C_lasting_neg {d : Nat} {suf : mH} {A : AS} {h : mH} {Q : Option Value → mH → Prop} (hR : CIA suf A h) {v1 v2 : Int32} (hneg : v1 < 0 ∨ v2 < 0) (hQ : ∀ h', CIA suf A h' → Q (some (.int (-1))) h') : Rn mprog (d + 9) n_Z_lasting [.ref 0, .int v1, .int v2] h Q := by
  obtain ⟨tl, tb, ⟨rn, rb⟩, un, ua, kn, ka⟩ := A
  obtain ⟨ta, ra, qn, qa, σ, us, ρ, ks, pts, edg, nr, rt, sc, wf, ws, bsz, bop, bbg, ben, ptx, edx, nrx, rtx, scx, wfx, wsx, bsx, box, bbx, bex, rfl, hI⟩ := hR
  have hI0 := hI
  obtain ⟨hl, hta, hV0, hra, hqn, hu, hSu, hU, hk, hSk, hK, hNI, hbx⟩ := hI
  dsimp only at hl hta hV0 hra hqn hu hSu hU hk hSk hK hNI hbx
  have hE : EqR (rn, ra) (rn, rb) := ⟨rfl, hra⟩
  have hV : RV (rn, ra) := RV_congr hE hV0
  have hrn : rn ≤ 40 := hV.1
  obtain ⟨e1, e2, hnr0, hrt0, hsc0, hB, hO, hbv⟩ := hNI
  dsimp only at e1 e2 hnr0 hrt0 hsc0 hB hO hbv
  subst e1
  subst e2
  have hTV := stP hV0 (Nat.le_refl rn)
  have hpt := hTV.1.1
  have hnr : ∀ p, p < 9 → nr p < 512 := fun p hp => by rw [hnr0 p hp]; exact hTV.1.2.1.1 p hp
  obtain ⟨hn1, hq1⟩ := BL_BQ hV0 hB
  have hbz : ∀ i, i < bsz → bbg i < 2 ^ 31 ∧ ben i < 2 ^ 31 := fun i hi => hbv i (by omega)
  rcases hneg with hneg | hneg
  · skip
    refine Rn.in rfl rfl rfl ?_
    show WP _ _ _ _ 0 [.ref 0, .int v1, .int v2] [] (zW tl ta rn ra qn qa un σ us kn ρ ks ((stR rb rn).1) ((stR rb rn).2.1) nr rt sc wf ws bsz bop bbg ben ptx edx nrx rtx scx wfx wsx bsx box bbx bex suf)
    refine wq_iload_n rfl rfl ?_
    refine wq_if_lt rfl (fun c1 => ?_) (fun c1 => absurd c1 (fun z => z hneg))
    refine wq_iconst (v := (-1)) rfl (by decide) ?_
    refine wq_iret rfl trivial ?_
    exact hQ _ ⟨_, _, _, _, _, _, _, _, _, _, _, _, _, _, _, _, _, _, _, _, _, _, _, _, _, _, _, _, _, _, rfl, hI0⟩
  · skip
    refine Rn.in rfl rfl rfl ?_
    show WP _ _ _ _ 0 [.ref 0, .int v1, .int v2] [] (zW tl ta rn ra qn qa un σ us kn ρ ks ((stR rb rn).1) ((stR rb rn).2.1) nr rt sc wf ws bsz bop bbg ben ptx edx nrx rtx scx wfx wsx bsx box bbx bex suf)
    refine wq_iload_n rfl rfl ?_
    refine wq_if_lt rfl (fun c1 => ?_) (fun c1 => ?_)
    · skip
      refine wq_iconst (v := (-1)) rfl (by decide) ?_
      refine wq_iret rfl trivial ?_
      exact hQ _ ⟨_, _, _, _, _, _, _, _, _, _, _, _, _, _, _, _, _, _, _, _, _, _, _, _, _, _, _, _, _, _, rfl, hI0⟩
    · skip
      refine wq_iload_n rfl rfl ?_
      refine wq_aload_n rfl rfl ?_
      refine wq_getfield (v := .ref 3) rfl zo_0 rfl ?_
      refine wq_virt (b := 3) (a := []) (rest := [.int v2]) rfl rfl rfl rfl rfl zo_3 ?_
      refine r_Row_size (ra := fun _ => 0) zo_3 ?_
      show WP _ _ _ _ 12 [.ref 0, .int v1, .int v2] [.int (nI rn), .int v2] (zW tl ta rn ra qn qa un σ us kn ρ ks ((stR rb rn).1) ((stR rb rn).2.1) nr rt sc wf ws bsz bop bbg ben ptx edx nrx rtx scx wfx wsx bsx box bbx bex suf)
      refine wq_ic_gt rfl (fun c12 => ?_) (fun c12 => ?_)
      · skip
        refine wq_iconst (v := (-1)) rfl (by decide) ?_
        refine wq_iret rfl trivial ?_
        exact hQ _ ⟨_, _, _, _, _, _, _, _, _, _, _, _, _, _, _, _, _, _, _, _, _, _, _, _, _, _, _, _, _, _, rfl, hI0⟩
      · skip
        refine wq_iload_n rfl rfl ?_
        refine wq_iload_n rfl rfl ?_
        refine wq_ic_le rfl (fun c17 => absurd c17 (fun z => c1 (Int32.lt_of_le_of_lt z hneg))) (fun c17 => ?_)
        refine wq_iconst (v := (-1)) rfl (by decide) ?_
        refine wq_iret rfl trivial ?_
        exact hQ _ ⟨_, _, _, _, _, _, _, _, _, _, _, _, _, _, _, _, _, _, _, _, _, _, _, _, _, _, _, _, _, _, rfl, hI0⟩
theorem C_longer {d : Nat} {suf : mH} {A : AS} {h : mH} {Q : Option Value → mH → Prop} (hR : CIA suf A h) {m : Nat} (hm0 : m < 2 ^ 31)  (hQ : ∀ h', CIA suf (f_long A m).2 h' → Q (some (.int (f_long A m).1)) h') : Rn mprog (d + 9) n_Z_longer [.ref 0, .int (nI m)] h Q := by
  obtain ⟨tl, tb, ⟨rn, rb⟩, un, ua, kn, ka⟩ := A
  obtain ⟨ta, ra, qn, qa, σ, us, ρ, ks, pts, edg, nr, rt, sc, wf, ws, bsz, bop, bbg, ben, ptx, edx, nrx, rtx, scx, wfx, wsx, bsx, box, bbx, bex, rfl, hI⟩ := hR
  have hI0 := hI
  obtain ⟨hl, hta, hV0, hra, hqn, hu, hSu, hU, hk, hSk, hK, hNI, hbx⟩ := hI
  dsimp only at hl hta hV0 hra hqn hu hSu hU hk hSk hK hNI hbx
  have hE : EqR (rn, ra) (rn, rb) := ⟨rfl, hra⟩
  have hV : RV (rn, ra) := RV_congr hE hV0
  have hrn : rn ≤ 40 := hV.1
  obtain ⟨e1, e2, hnr0, hrt0, hsc0, hB, hO, hbv⟩ := hNI
  dsimp only at e1 e2 hnr0 hrt0 hsc0 hB hO hbv
  subst e1
  subst e2
  have hTV := stP hV0 (Nat.le_refl rn)
  have hpt := hTV.1.1
  have hnr : ∀ p, p < 9 → nr p < 512 := fun p hp => by rw [hnr0 p hp]; exact hTV.1.2.1.1 p hp
  obtain ⟨hn1, hq1⟩ := BL_BQ hV0 hB
  have hbz : ∀ i, i < bsz → bbg i < 2 ^ 31 ∧ ben i < 2 ^ 31 := fun i hi => hbv i (by omega)
  refine Rn.in rfl rfl rfl ?_
  show WP _ _ _ _ 0 [.ref 0, .int (nI m)] [] (zW tl ta rn ra qn qa un σ us kn ρ ks ((stR rb rn).1) ((stR rb rn).2.1) nr rt sc wf ws bsz bop bbg ben ptx edx nrx rtx scx wfx wsx bsx box bbx bex suf)
  refine wq_iload_n rfl rfl ?_
  refine wq_iconst (v := nI 1) rfl (by decide) ?_
  refine wn_ic_lt rfl (by omega) (by omega) (fun c2 => ?_) (fun c2 => ?_)
  · skip
    refine wq_iconst (v := (-1)) rfl (by decide) ?_
    refine wq_iret rfl trivial ?_
    exact fin_ (P := CIA suf) (A' := (tl, tb, (rn, rb), un, ua, kn, ka)) hQ (by unfold f_long; (try dsimp only); (repeat first | rw [if_pos (by omega)] | rw [if_neg (by omega)]); try rfl) ⟨_, _, _, _, _, _, _, _, _, _, _, _, _, _, _, _, _, _, _, _, _, _, _, _, _, _, _, _, _, _, rfl, hI0⟩
  · skip
    refine wq_iload_n rfl rfl ?_
    refine wq_bipush (v := nI 41) rfl (by decide) ?_
    refine wn_ic_le rfl (by omega) (by omega) (fun c8 => ?_) (fun c8 => ?_)
    · skip
      refine wq_aload_n rfl rfl ?_
      refine wq_getfield (v := .ref 27) rfl zo_0 rfl ?_
      refine wq_getfield (v := .ref 35) rfl zo_27 rfl ?_
      refine wq_iload_n rfl rfl ?_
      refine wq_aload_n rfl rfl ?_
      refine wq_getfield (v := .ref 3) rfl zo_0 rfl ?_
      refine wq_virt (b := 3) (a := []) (rest := [.int (nI m), .ref 35]) rfl rfl rfl rfl rfl zo_3 ?_
      refine r_Row_size (ra := fun _ => 0) zo_3 ?_
      show WP _ _ _ _ 28 [.ref 0, .int (nI m)] [.int (nI rn), .int (nI m), .ref 35] (zW tl ta rn ra qn qa un σ us kn ρ ks ((stR rb rn).1) ((stR rb rn).2.1) nr rt sc wf ws bsz bop bbg ben ptx edx nrx rtx scx wfx wsx bsx box bbx bex suf)
      refine wq_virt (b := 35) (a := [.int (nI m), .int (nI rn)]) (rest := []) rfl rfl rfl rfl rfl zo_35 ?_
      refine r_Bars_atLeast zo_35 zo_36b zo_37b hn1 hrn hq1 (by omega) ?_
      show WP _ _ _ _ 31 [.ref 0, .int (nI m)] [.int (nI (cntA (fun jj => Nat.ble m (lnN rn (bbg jj) (ben jj))) bsz))] (zW tl ta rn ra qn qa un σ us kn ρ ks ((stR rb rn).1) ((stR rb rn).2.1) nr rt sc wf ws bsz bop bbg ben ptx edx nrx rtx scx wfx wsx bsx box bbx bex suf)
      refine wq_iret rfl trivial ?_
      rw [BL_cn (fun f g => Nat.ble m (lnN rn f g)) hB]
      exact fin_ (P := CIA suf) (A' := (tl, tb, (rn, rb), un, ua, kn, ka)) hQ (by unfold f_long; (try dsimp only); (repeat first | rw [if_pos (by omega)] | rw [if_neg (by omega)]); try rfl) ⟨_, _, _, _, _, _, _, _, _, _, _, _, _, _, _, _, _, _, _, _, _, _, _, _, _, _, _, _, _, _, rfl, hI0⟩
    · skip
      refine wq_iconst (v := (-1)) rfl (by decide) ?_
      refine wq_iret rfl trivial ?_
      exact fin_ (P := CIA suf) (A' := (tl, tb, (rn, rb), un, ua, kn, ka)) hQ (by unfold f_long; (try dsimp only); (repeat first | rw [if_pos (by omega)] | rw [if_neg (by omega)]); try rfl) ⟨_, _, _, _, _, _, _, _, _, _, _, _, _, _, _, _, _, _, _, _, _, _, _, _, _, _, _, _, _, _, rfl, hI0⟩
theorem C_longer_neg {d : Nat} {suf : mH} {A : AS} {h : mH} {Q : Option Value → mH → Prop} (hR : CIA suf A h) {v1 : Int32} (hneg : v1 < 0) (hQ : ∀ h', CIA suf A h' → Q (some (.int (-1))) h') : Rn mprog (d + 9) n_Z_longer [.ref 0, .int v1] h Q := by
  obtain ⟨tl, tb, ⟨rn, rb⟩, un, ua, kn, ka⟩ := A
  obtain ⟨ta, ra, qn, qa, σ, us, ρ, ks, pts, edg, nr, rt, sc, wf, ws, bsz, bop, bbg, ben, ptx, edx, nrx, rtx, scx, wfx, wsx, bsx, box, bbx, bex, rfl, hI⟩ := hR
  have hI0 := hI
  obtain ⟨hl, hta, hV0, hra, hqn, hu, hSu, hU, hk, hSk, hK, hNI, hbx⟩ := hI
  dsimp only at hl hta hV0 hra hqn hu hSu hU hk hSk hK hNI hbx
  have hE : EqR (rn, ra) (rn, rb) := ⟨rfl, hra⟩
  have hV : RV (rn, ra) := RV_congr hE hV0
  have hrn : rn ≤ 40 := hV.1
  obtain ⟨e1, e2, hnr0, hrt0, hsc0, hB, hO, hbv⟩ := hNI
  dsimp only at e1 e2 hnr0 hrt0 hsc0 hB hO hbv
  subst e1
  subst e2
  have hTV := stP hV0 (Nat.le_refl rn)
  have hpt := hTV.1.1
  have hnr : ∀ p, p < 9 → nr p < 512 := fun p hp => by rw [hnr0 p hp]; exact hTV.1.2.1.1 p hp
  obtain ⟨hn1, hq1⟩ := BL_BQ hV0 hB
  have hbz : ∀ i, i < bsz → bbg i < 2 ^ 31 ∧ ben i < 2 ^ 31 := fun i hi => hbv i (by omega)
  refine Rn.in rfl rfl rfl ?_
  show WP _ _ _ _ 0 [.ref 0, .int v1] [] (zW tl ta rn ra qn qa un σ us kn ρ ks ((stR rb rn).1) ((stR rb rn).2.1) nr rt sc wf ws bsz bop bbg ben ptx edx nrx rtx scx wfx wsx bsx box bbx bex suf)
  refine wq_iload_n rfl rfl ?_
  refine wq_iconst (v := nI 1) rfl (by decide) ?_
  refine wq_ic_lt rfl (fun c2 => ?_) (fun c2 => absurd c2 (fun z => z (nI_neg hneg (by decide))))
  refine wq_iconst (v := (-1)) rfl (by decide) ?_
  refine wq_iret rfl trivial ?_
  exact hQ _ ⟨_, _, _, _, _, _, _, _, _, _, _, _, _, _, _, _, _, _, _, _, _, _, _, _, _, _, _, _, _, _, rfl, hI0⟩
theorem C_keep {d : Nat} {suf : mH} {A : AS} {h : mH} {Q : Option Value → mH → Prop} (hR : CIA suf A h)   (hQ : ∀ h', CIA suf (f_keep A ).2 h' → Q (some (.int (f_keep A ).1)) h') : Rn mprog (d + 9) n_Z_keep [.ref 0] h Q := by
  obtain ⟨tl, tb, ⟨rn, rb⟩, un, ua, kn, ka⟩ := A
  obtain ⟨ta, ra, qn, qa, σ, us, ρ, ks, pts, edg, nr, rt, sc, wf, ws, bsz, bop, bbg, ben, ptx, edx, nrx, rtx, scx, wfx, wsx, bsx, box, bbx, bex, rfl, hI⟩ := hR
  have hI0 := hI
  obtain ⟨hl, hta, hV0, hra, hqn, hu, hSu, hU, hk, hSk, hK, hNI, hbx⟩ := hI
  dsimp only at hl hta hV0 hra hqn hu hSu hU hk hSk hK hNI hbx
  have hE : EqR (rn, ra) (rn, rb) := ⟨rfl, hra⟩
  have hV : RV (rn, ra) := RV_congr hE hV0
  have hrn : rn ≤ 40 := hV.1
  obtain ⟨e1, e2, hnr0, hrt0, hsc0, hB, hO, hbv⟩ := hNI
  dsimp only at e1 e2 hnr0 hrt0 hsc0 hB hO hbv
  subst e1
  subst e2
  have hTV := stP hV0 (Nat.le_refl rn)
  have hpt := hTV.1.1
  have hnr : ∀ p, p < 9 → nr p < 512 := fun p hp => by rw [hnr0 p hp]; exact hTV.1.2.1.1 p hp
  obtain ⟨hn1, hq1⟩ := BL_BQ hV0 hB
  have hbz : ∀ i, i < bsz → bbg i < 2 ^ 31 ∧ ben i < 2 ^ 31 := fun i hi => hbv i (by omega)
  have hNI0 := hI0.2.2.2.2.2.2.2.2.2.2.2.1
  refine Rn.in rfl rfl rfl ?_
  show WP _ _ _ _ 0 [.ref 0] [] (zW tl ta rn ra qn qa un σ us kn ρ ks ((stR rb rn).1) ((stR rb rn).2.1) nr rt sc wf ws bsz bop bbg ben ptx edx nrx rtx scx wfx wsx bsx box bbx bex suf)
  refine wq_aload_n rfl rfl ?_
  refine wq_getfield (v := .ref 21) rfl zo_0 rfl ?_
  refine wq_virt (b := 21) (a := []) (rest := []) rfl rfl rfl rfl rfl zo_21 ?_
  rw [zv_k]
  refine r_Shf_size (by rfl) ?_
  rw [← zv_k]
  show WP _ _ _ _ 7 [.ref 0] [.int (nI kn)] (zW tl ta rn ra qn qa un σ us kn ρ ks ((stR rb rn).1) ((stR rb rn).2.1) nr rt sc wf ws bsz bop bbg ben ptx edx nrx rtx scx wfx wsx bsx box bbx bex suf)
  refine wq_iconst (v := nI 2) rfl (by decide) ?_
  refine wn_ic_lt rfl (by omega) (by omega) (fun c8 => ?_) (fun c8 => ?_)
  · skip
    refine wq_aload_n rfl rfl ?_
    refine wq_getfield (v := .ref 21) rfl zo_0 rfl ?_
    refine wq_aload_n rfl rfl ?_
    refine wq_getfield (v := .ref 3) rfl zo_0 rfl ?_
    refine wq_virt (b := 21) (a := [.ref 3]) (rest := []) rfl rfl rfl rfl rfl zo_21 ?_
    rw [zv_k]
    refine r_Shf_put (rn := rn) (ra := ra) (by rfl) (by omega) (by omega) hSk (by omega) (by omega) (fun _ _ _ => by rfl) (fun _ _ _ => by rfl) ?_
    intro ρ1 ks1 hSk1 hpk1 hpk2
    rw [← zv_k]
    show WP _ _ _ _ 25 [.ref 0] [] (zW tl ta rn ra qn qa un σ us (pz 2 kn) ρ1 ks1 ((stR rb rn).1) ((stR rb rn).2.1) nr rt sc wf ws bsz bop bbg ben ptx edx nrx rtx scx wfx wsx bsx box bbx bex suf)
    refine wq_aload_n rfl rfl ?_
    refine wq_getfield (v := .ref 21) rfl zo_0 rfl ?_
    refine wq_virt (b := 21) (a := []) (rest := []) rfl rfl rfl rfl rfl zo_21 ?_
    rw [zv_k]
    refine r_Shf_size (by rfl) ?_
    rw [← zv_k]
    show WP _ _ _ _ 32 [.ref 0] [.int (nI (pz 2 kn))] (zW tl ta rn ra qn qa un σ us (pz 2 kn) ρ1 ks1 ((stR rb rn).1) ((stR rb rn).2.1) nr rt sc wf ws bsz bop bbg ben ptx edx nrx rtx scx wfx wsx bsx box bbx bex suf)
    refine wq_iret rfl trivial ?_
    have epz : pz 2 kn = kn + 1 := by unfold pz; rw [if_neg (by omega)]
    rw [epz] at hpk1 hpk2 ⊢
    have hK2 : ∀ j, j < kn + 1 → RV (if j < kn then ka j else (rn, rb)) ∧ EqR (ks1 (ρ1 j)) (if j < kn then ka j else (rn, rb)) := fun j hj => by
      by_cases e : j < kn
      · rw [if_pos e, hpk1 j (by omega), if_neg (by omega)]; exact hK j e
      · rw [if_neg e]; have ej : j = kn + 1 - 1 := by omega
        rw [ej]; exact ⟨hV0, EqR_tr hpk2 hE⟩
    exact fin_ (P := CIA suf) (A' := (tl, tb, (rn, rb), un, ua, kn + 1, fun j => if j < kn then ka j else (rn, rb))) hQ (by unfold f_keep; (try dsimp only); (repeat first | rw [if_pos (by omega)] | rw [if_neg (by omega)]); try rfl) ⟨_, _, _, _, _, _, _, _, _, _, _, _, _, _, _, _, _, _, _, _, _, _, _, _, _, _, _, _, _, _, rfl, ⟨hl, hta, hV0, hra, hqn, hu, hSu, hU, (by show kn + 1 ≤ 2; omega), hSk1, hK2, hNI0, hbx⟩⟩
  · skip
    refine wq_bipush (v := (-3)) rfl (by decide) ?_
    refine wq_iret rfl trivial ?_
    exact fin_ (P := CIA suf) (A' := (tl, tb, (rn, rb), un, ua, kn, ka)) hQ (by unfold f_keep; (try dsimp only); (repeat first | rw [if_pos (by omega)] | rw [if_neg (by omega)]); try rfl) ⟨_, _, _, _, _, _, _, _, _, _, _, _, _, _, _, _, _, _, _, _, _, _, _, _, _, _, _, _, _, _, rfl, hI0⟩
theorem C_undo1 {d : Nat} {suf : mH} {A : AS} {h : mH} {Q : Option Value → mH → Prop} (hR : CIA suf A h)  (h0 : A.2.2.2.1 ≠ 0) (hQ : ∀ h', CIA suf (f_undo A ).2 h' → Q (some (.int (f_undo A ).1)) h') : Rn mprog (d + 9) n_Z_undo [.ref 0] h Q := by
  obtain ⟨tl, tb, ⟨rn, rb⟩, un, ua, kn, ka⟩ := A
  obtain ⟨ta, ra, qn, qa, σ, us, ρ, ks, pts, edg, nr, rt, sc, wf, ws, bsz, bop, bbg, ben, ptx, edx, nrx, rtx, scx, wfx, wsx, bsx, box, bbx, bex, rfl, hI⟩ := hR
  have hI0 := hI
  obtain ⟨hl, hta, hV0, hra, hqn, hu, hSu, hU, hk, hSk, hK, hNI, hbx⟩ := hI
  dsimp only at hl hta hV0 hra hqn hu hSu hU hk hSk hK hNI hbx
  have hE : EqR (rn, ra) (rn, rb) := ⟨rfl, hra⟩
  have hV : RV (rn, ra) := RV_congr hE hV0
  have hrn : rn ≤ 40 := hV.1
  obtain ⟨e1, e2, hnr0, hrt0, hsc0, hB, hO, hbv⟩ := hNI
  dsimp only at e1 e2 hnr0 hrt0 hsc0 hB hO hbv
  subst e1
  subst e2
  have hTV := stP hV0 (Nat.le_refl rn)
  have hpt := hTV.1.1
  have hnr : ∀ p, p < 9 → nr p < 512 := fun p hp => by rw [hnr0 p hp]; exact hTV.1.2.1.1 p hp
  obtain ⟨hn1, hq1⟩ := BL_BQ hV0 hB
  have hbz : ∀ i, i < bsz → bbg i < 2 ^ 31 ∧ ben i < 2 ^ 31 := fun i hi => hbv i (by omega)
  have h0 : un ≠ 0 := h0
  obtain ⟨hU0, hU1⟩ := hU (un - 1) (by omega)
  have h40 : (us (σ (un - 1))).1 ≤ 40 := by rw [hU1.1]; exact hU0.1
  have hE9 : EqR ((us (σ (un - 1))).1, cpA (us (σ (un - 1))).2 ra (us (σ (un - 1))).1) (ua (un - 1)) := ⟨hU1.1, fun i hi => by have e := cpA_in (g := (us (σ (un - 1))).2) (r := ra) hi; dsimp only; rw [e]; exact hU1.2 i hi⟩
  refine Rn.in rfl rfl rfl ?_
  show WP _ _ _ _ 0 [.ref 0, .long 0] [] (zW tl ta rn ra qn qa un σ us kn ρ ks ((stR rb rn).1) ((stR rb rn).2.1) nr rt sc wf ws bsz bop bbg ben ptx edx nrx rtx scx wfx wsx bsx box bbx bex suf)
  refine wq_aload_n rfl rfl ?_
  refine wq_getfield (v := .ref 7) rfl zo_0 rfl ?_
  refine wq_virt (b := 7) (a := []) (rest := []) rfl rfl rfl rfl rfl zo_7 ?_
  rw [zv_u]
  refine r_Shf_last (by rfl) (by omega) (by omega) (by omega) ?_
  rw [← zv_u]
  show WP _ _ _ _ 7 [.ref 0, .long 0] [.ref (7 + 2 + 2 * σ (un - 1))] (zW tl ta rn ra qn qa un σ us kn ρ ks ((stR rb rn).1) ((stR rb rn).2.1) nr rt sc wf ws bsz bop bbg ben ptx edx nrx rtx scx wfx wsx bsx box bbx bex suf)
  refine wq_astore_n (lv' := [.ref 0, .ref (7 + 2 + 2 * σ (un - 1))]) rfl rfl rfl ?_
  refine wq_aload_n rfl rfl ?_
  refine wq_ifnonnull rfl ?_
  refine wq_aload_n rfl rfl ?_
  refine wq_getfield (v := .ref 3) rfl zo_0 rfl ?_
  refine wq_aload_n rfl rfl ?_
  refine wq_virt (b := 3) (a := [.ref (7 + 2 + 2 * σ (un - 1))]) (rest := []) rfl rfl rfl rfl rfl zo_3 ?_
  rw [zv_r]
  refine r_Row_copy (m := (us (σ (un - 1))).1) (g := (us (σ (un - 1))).2) (by rfl) h40 (fun _ _ => by rw [← zv_r]; exact zu_get (hSu.1 _ (by omega))) (fun _ _ => by rw [← zv_r]; exact zu_get1 (hSu.1 _ (by omega))) ?_
  rw [← zv_r]
  show WP _ _ _ _ 23 [.ref 0, .ref (7 + 2 + 2 * σ (un - 1))] [] (zW tl ta ((us (σ (un - 1))).1) (cpA (us (σ (un - 1))).2 ra (us (σ (un - 1))).1) qn qa un σ us kn ρ ks ((stR rb rn).1) ((stR rb rn).2.1) nr rt sc wf ws bsz bop bbg ben ptx edx nrx rtx scx wfx wsx bsx box bbx bex suf)
  refine wq_aload_n rfl rfl ?_
  refine wq_getfield (v := .ref 7) rfl zo_0 rfl ?_
  refine wq_virt (b := 7) (a := []) (rest := []) rfl rfl rfl rfl rfl zo_7 ?_
  rw [zv_u]
  refine r_Shf_removeLast (by rfl) (by omega) (by omega) (by omega) ?_
  rw [← zv_u]
  show WP _ _ _ _ 30 [.ref 0, .ref (7 + 2 + 2 * σ (un - 1))] [] (zW tl ta ((us (σ (un - 1))).1) (cpA (us (σ (un - 1))).2 ra (us (σ (un - 1))).1) qn qa (un - 1) σ us kn ρ ks ((stR rb rn).1) ((stR rb rn).2.1) nr rt sc wf ws bsz bop bbg ben ptx edx nrx rtx scx wfx wsx bsx box bbx bex suf)
  refine wq_aload_n rfl rfl ?_
  refine wq_virt (b := 0) (a := []) (rest := []) rfl rfl rfl rfl rfl zo_0 ?_
  refine r_Z_tell (RV_congr hE9 hU0) hbv ?_
  intro pts1 edg1 nr1 rt1 sc1 wf1 ws1 bsz1 bop1 bbg1 ben1 hNI1
  show WP _ _ _ _ 34 [.ref 0, .ref (7 + 2 + 2 * σ (un - 1))] [] (zW tl ta ((us (σ (un - 1))).1) (cpA (us (σ (un - 1))).2 ra (us (σ (un - 1))).1) qn qa (un - 1) σ us kn ρ ks pts1 edg1 nr1 rt1 sc1 wf1 ws1 bsz1 bop1 bbg1 ben1 ptx edx nrx rtx scx wfx wsx bsx box bbx bex suf)
  refine wq_aload_n rfl rfl ?_
  refine wq_getfield (v := .ref 7) rfl zo_0 rfl ?_
  refine wq_virt (b := 7) (a := []) (rest := []) rfl rfl rfl rfl rfl zo_7 ?_
  rw [zv_u]
  refine r_Shf_size (by rfl) ?_
  rw [← zv_u]
  show WP _ _ _ _ 41 [.ref 0, .ref (7 + 2 + 2 * σ (un - 1))] [.int (nI (un - 1))] (zW tl ta ((us (σ (un - 1))).1) (cpA (us (σ (un - 1))).2 ra (us (σ (un - 1))).1) qn qa (un - 1) σ us kn ρ ks pts1 edg1 nr1 rt1 sc1 wf1 ws1 bsz1 bop1 bbg1 ben1 ptx edx nrx rtx scx wfx wsx bsx box bbx bex suf)
  refine wq_iret rfl trivial ?_
  have e40 := hU1.1
  rw [e40]
  exact fin_ (P := CIA suf) (A' := (tl, tb, ua (un - 1), un - 1, ua, kn, ka)) hQ (by unfold f_undo; (try dsimp only); (repeat first | rw [if_pos (by omega)] | rw [if_neg (by omega)]); try rfl) ⟨_, _, _, _, _, _, _, _, _, _, _, _, _, _, _, _, _, _, _, _, _, _, _, _, _, _, _, _, _, _, rfl, ⟨hl, hta, hU0, fun i hi => by rw [cpA_in (by exact hi)]; exact hU1.2 i (by rw [e40]; exact hi), hqn, (by show un - 1 ≤ 6; omega), hSu, fun j hj => hU j (by have : j < un - 1 := hj; omega), hk, hSk, hK, NI_congr hE9 hNI1, hbx⟩⟩
theorem C_undo0 {d : Nat} {suf : mH} {A : AS} {h : mH} {Q : Option Value → mH → Prop} (hR : CIA suf A h) (h0 : A.2.2.2.1 = 0) (hQ : ∀ h', CIA suf A h' → Q (some (.int (-2))) h') : Rn mprog (d + 9) n_Z_undo [.ref 0] h Q := by
  obtain ⟨tl, tb, ⟨rn, rb⟩, un, ua, kn, ka⟩ := A
  obtain ⟨ta, ra, qn, qa, σ, us, ρ, ks, pts, edg, nr, rt, sc, wf, ws, bsz, bop, bbg, ben, ptx, edx, nrx, rtx, scx, wfx, wsx, bsx, box, bbx, bex, rfl, hI⟩ := hR
  have hI0 := hI
  obtain ⟨hl, hta, hV0, hra, hqn, hu, hSu, hU, hk, hSk, hK, hNI, hbx⟩ := hI
  dsimp only at hl hta hV0 hra hqn hu hSu hU hk hSk hK hNI hbx
  have hE : EqR (rn, ra) (rn, rb) := ⟨rfl, hra⟩
  have hV : RV (rn, ra) := RV_congr hE hV0
  have hrn : rn ≤ 40 := hV.1
  obtain ⟨e1, e2, hnr0, hrt0, hsc0, hB, hO, hbv⟩ := hNI
  dsimp only at e1 e2 hnr0 hrt0 hsc0 hB hO hbv
  subst e1
  subst e2
  have hTV := stP hV0 (Nat.le_refl rn)
  have hpt := hTV.1.1
  have hnr : ∀ p, p < 9 → nr p < 512 := fun p hp => by rw [hnr0 p hp]; exact hTV.1.2.1.1 p hp
  obtain ⟨hn1, hq1⟩ := BL_BQ hV0 hB
  have hbz : ∀ i, i < bsz → bbg i < 2 ^ 31 ∧ ben i < 2 ^ 31 := fun i hi => hbv i (by omega)
  have h0 : un = 0 := h0
  subst h0
  refine Rn.in rfl rfl rfl ?_
  show WP _ _ _ _ 0 [.ref 0, .long 0] [] (zW tl ta rn ra qn qa 0 σ us kn ρ ks ((stR rb rn).1) ((stR rb rn).2.1) nr rt sc wf ws bsz bop bbg ben ptx edx nrx rtx scx wfx wsx bsx box bbx bex suf)
  refine wq_aload_n rfl rfl ?_
  refine wq_getfield (v := .ref 7) rfl zo_0 rfl ?_
  refine wq_virt (b := 7) (a := []) (rest := []) rfl rfl rfl rfl rfl zo_7 ?_
  rw [zv_u]
  refine r_Shf_last0 (by rfl) (by omega) ?_
  rw [← zv_u]
  show WP _ _ _ _ 7 [.ref 0, .long 0] [.null] (zW tl ta rn ra qn qa 0 σ us kn ρ ks ((stR rb rn).1) ((stR rb rn).2.1) nr rt sc wf ws bsz bop bbg ben ptx edx nrx rtx scx wfx wsx bsx box bbx bex suf)
  refine wq_astore_nN (lv' := [.ref 0, .null]) rfl rfl rfl ?_
  refine wq_aload_nN rfl rfl ?_
  refine wq_ifnonnullN rfl ?_
  refine wq_bipush (v := (-2)) rfl (by decide) ?_
  refine wq_iret rfl trivial ?_
  exact hQ _ ⟨_, _, _, _, _, _, _, _, _, _, _, _, _, _, _, _, _, _, _, _, _, _, _, _, _, _, _, _, _, _, rfl, hI0⟩
theorem C_undo {d : Nat} {suf : mH} {A : AS} {h : mH} {Q : Option Value → mH → Prop} (hR : CIA suf A h) (hQ : ∀ h', CIA suf (f_undo A).2 h' → Q (some (.int (f_undo A).1)) h') : Rn mprog (d + 9) n_Z_undo [.ref 0] h Q := by
  by_cases e : A.2.2.2.1 = 0
  · have q : f_undo A = (-2, A) := by unfold f_undo; rw [if_pos e]
    rw [q] at hQ
    exact C_undo0 hR e hQ
  · exact C_undo1 hR e hQ
theorem C_back1 {d : Nat} {suf : mH} {A : AS} {h : mH} {Q : Option Value → mH → Prop} (hR : CIA suf A h)  (h0 : A.2.2.2.2.2.1 ≠ 0) (hQ : ∀ h', CIA suf (f_back A ).2 h' → Q (some (.int (f_back A ).1)) h') : Rn mprog (d + 9) n_Z_back [.ref 0] h Q := by
  obtain ⟨tl, tb, ⟨rn, rb⟩, un, ua, kn, ka⟩ := A
  obtain ⟨ta, ra, qn, qa, σ, us, ρ, ks, pts, edg, nr, rt, sc, wf, ws, bsz, bop, bbg, ben, ptx, edx, nrx, rtx, scx, wfx, wsx, bsx, box, bbx, bex, rfl, hI⟩ := hR
  have hI0 := hI
  obtain ⟨hl, hta, hV0, hra, hqn, hu, hSu, hU, hk, hSk, hK, hNI, hbx⟩ := hI
  dsimp only at hl hta hV0 hra hqn hu hSu hU hk hSk hK hNI hbx
  have hE : EqR (rn, ra) (rn, rb) := ⟨rfl, hra⟩
  have hV : RV (rn, ra) := RV_congr hE hV0
  have hrn : rn ≤ 40 := hV.1
  obtain ⟨e1, e2, hnr0, hrt0, hsc0, hB, hO, hbv⟩ := hNI
  dsimp only at e1 e2 hnr0 hrt0 hsc0 hB hO hbv
  subst e1
  subst e2
  have hTV := stP hV0 (Nat.le_refl rn)
  have hpt := hTV.1.1
  have hnr : ∀ p, p < 9 → nr p < 512 := fun p hp => by rw [hnr0 p hp]; exact hTV.1.2.1.1 p hp
  obtain ⟨hn1, hq1⟩ := BL_BQ hV0 hB
  have hbz : ∀ i, i < bsz → bbg i < 2 ^ 31 ∧ ben i < 2 ^ 31 := fun i hi => hbv i (by omega)
  have h0 : kn ≠ 0 := h0
  obtain ⟨hK0, hK1⟩ := hK (kn - 1) (by omega)
  have h40 : (ks (ρ (kn - 1))).1 ≤ 40 := by rw [hK1.1]; exact hK0.1
  have hE9 : EqR ((ks (ρ (kn - 1))).1, cpA (ks (ρ (kn - 1))).2 ra (ks (ρ (kn - 1))).1) (ka (kn - 1)) := ⟨hK1.1, fun i hi => by have e := cpA_in (g := (ks (ρ (kn - 1))).2) (r := ra) hi; dsimp only; rw [e]; exact hK1.2 i hi⟩
  refine Rn.in rfl rfl rfl ?_
  show WP _ _ _ _ 0 [.ref 0, .long 0] [] (zW tl ta rn ra qn qa un σ us kn ρ ks ((stR rb rn).1) ((stR rb rn).2.1) nr rt sc wf ws bsz bop bbg ben ptx edx nrx rtx scx wfx wsx bsx box bbx bex suf)
  refine wq_aload_n rfl rfl ?_
  refine wq_getfield (v := .ref 21) rfl zo_0 rfl ?_
  refine wq_virt (b := 21) (a := []) (rest := []) rfl rfl rfl rfl rfl zo_21 ?_
  rw [zv_k]
  refine r_Shf_last (by rfl) (by omega) (by omega) (by omega) ?_
  rw [← zv_k]
  show WP _ _ _ _ 7 [.ref 0, .long 0] [.ref (21 + 2 + 2 * ρ (kn - 1))] (zW tl ta rn ra qn qa un σ us kn ρ ks ((stR rb rn).1) ((stR rb rn).2.1) nr rt sc wf ws bsz bop bbg ben ptx edx nrx rtx scx wfx wsx bsx box bbx bex suf)
  refine wq_astore_n (lv' := [.ref 0, .ref (21 + 2 + 2 * ρ (kn - 1))]) rfl rfl rfl ?_
  refine wq_aload_n rfl rfl ?_
  refine wq_ifnonnull rfl ?_
  refine wq_aload_n rfl rfl ?_
  refine wq_getfield (v := .ref 3) rfl zo_0 rfl ?_
  refine wq_aload_n rfl rfl ?_
  refine wq_virt (b := 3) (a := [.ref (21 + 2 + 2 * ρ (kn - 1))]) (rest := []) rfl rfl rfl rfl rfl zo_3 ?_
  rw [zv_r]
  refine r_Row_copy (m := (ks (ρ (kn - 1))).1) (g := (ks (ρ (kn - 1))).2) (by rfl) h40 (fun _ _ => by rw [← zv_r]; exact zk_get (hSk.1 _ (by omega))) (fun _ _ => by rw [← zv_r]; exact zk_get1 (hSk.1 _ (by omega))) ?_
  rw [← zv_r]
  show WP _ _ _ _ 23 [.ref 0, .ref (21 + 2 + 2 * ρ (kn - 1))] [] (zW tl ta ((ks (ρ (kn - 1))).1) (cpA (ks (ρ (kn - 1))).2 ra (ks (ρ (kn - 1))).1) qn qa un σ us kn ρ ks ((stR rb rn).1) ((stR rb rn).2.1) nr rt sc wf ws bsz bop bbg ben ptx edx nrx rtx scx wfx wsx bsx box bbx bex suf)
  refine wq_aload_n rfl rfl ?_
  refine wq_getfield (v := .ref 21) rfl zo_0 rfl ?_
  refine wq_virt (b := 21) (a := []) (rest := []) rfl rfl rfl rfl rfl zo_21 ?_
  rw [zv_k]
  refine r_Shf_removeLast (by rfl) (by omega) (by omega) (by omega) ?_
  rw [← zv_k]
  show WP _ _ _ _ 30 [.ref 0, .ref (21 + 2 + 2 * ρ (kn - 1))] [] (zW tl ta ((ks (ρ (kn - 1))).1) (cpA (ks (ρ (kn - 1))).2 ra (ks (ρ (kn - 1))).1) qn qa un σ us (kn - 1) ρ ks ((stR rb rn).1) ((stR rb rn).2.1) nr rt sc wf ws bsz bop bbg ben ptx edx nrx rtx scx wfx wsx bsx box bbx bex suf)
  refine wq_aload_n rfl rfl ?_
  refine wq_getfield (v := .ref 7) rfl zo_0 rfl ?_
  refine wq_virt (b := 7) (a := []) (rest := []) rfl rfl rfl rfl rfl zo_7 ?_
  rw [zv_u]
  refine r_Shf_empty (by rfl) ?_
  rw [← zv_u]
  show WP _ _ _ _ 37 [.ref 0, .ref (21 + 2 + 2 * ρ (kn - 1))] [] (zW tl ta ((ks (ρ (kn - 1))).1) (cpA (ks (ρ (kn - 1))).2 ra (ks (ρ (kn - 1))).1) qn qa 0 σ us (kn - 1) ρ ks ((stR rb rn).1) ((stR rb rn).2.1) nr rt sc wf ws bsz bop bbg ben ptx edx nrx rtx scx wfx wsx bsx box bbx bex suf)
  refine wq_aload_n rfl rfl ?_
  refine wq_virt (b := 0) (a := []) (rest := []) rfl rfl rfl rfl rfl zo_0 ?_
  refine r_Z_tell (RV_congr hE9 hK0) hbv ?_
  intro pts1 edg1 nr1 rt1 sc1 wf1 ws1 bsz1 bop1 bbg1 ben1 hNI1
  show WP _ _ _ _ 41 [.ref 0, .ref (21 + 2 + 2 * ρ (kn - 1))] [] (zW tl ta ((ks (ρ (kn - 1))).1) (cpA (ks (ρ (kn - 1))).2 ra (ks (ρ (kn - 1))).1) qn qa 0 σ us (kn - 1) ρ ks pts1 edg1 nr1 rt1 sc1 wf1 ws1 bsz1 bop1 bbg1 ben1 ptx edx nrx rtx scx wfx wsx bsx box bbx bex suf)
  refine wq_aload_n rfl rfl ?_
  refine wq_getfield (v := .ref 21) rfl zo_0 rfl ?_
  refine wq_virt (b := 21) (a := []) (rest := []) rfl rfl rfl rfl rfl zo_21 ?_
  rw [zv_k]
  refine r_Shf_size (by rfl) ?_
  rw [← zv_k]
  show WP _ _ _ _ 48 [.ref 0, .ref (21 + 2 + 2 * ρ (kn - 1))] [.int (nI (kn - 1))] (zW tl ta ((ks (ρ (kn - 1))).1) (cpA (ks (ρ (kn - 1))).2 ra (ks (ρ (kn - 1))).1) qn qa 0 σ us (kn - 1) ρ ks pts1 edg1 nr1 rt1 sc1 wf1 ws1 bsz1 bop1 bbg1 ben1 ptx edx nrx rtx scx wfx wsx bsx box bbx bex suf)
  refine wq_iret rfl trivial ?_
  have e40 := hK1.1
  rw [e40]
  exact fin_ (P := CIA suf) (A' := (tl, tb, ka (kn - 1), 0, ua, kn - 1, ka)) hQ (by unfold f_back; (try dsimp only); (repeat first | rw [if_pos (by omega)] | rw [if_neg (by omega)]); try rfl) ⟨_, _, _, _, _, _, _, _, _, _, _, _, _, _, _, _, _, _, _, _, _, _, _, _, _, _, _, _, _, _, rfl, ⟨hl, hta, hK0, fun i hi => by rw [cpA_in (by exact hi)]; exact hK1.2 i (by rw [e40]; exact hi), hqn, Nat.zero_le 6, hSu, fun j hj => absurd hj (Nat.not_lt_zero j), (by show kn - 1 ≤ 2; omega), hSk, fun j hj => hK j (by have : j < kn - 1 := hj; omega), NI_congr hE9 hNI1, hbx⟩⟩
theorem C_back0 {d : Nat} {suf : mH} {A : AS} {h : mH} {Q : Option Value → mH → Prop} (hR : CIA suf A h) (h0 : A.2.2.2.2.2.1 = 0) (hQ : ∀ h', CIA suf A h' → Q (some (.int (-2))) h') : Rn mprog (d + 9) n_Z_back [.ref 0] h Q := by
  obtain ⟨tl, tb, ⟨rn, rb⟩, un, ua, kn, ka⟩ := A
  obtain ⟨ta, ra, qn, qa, σ, us, ρ, ks, pts, edg, nr, rt, sc, wf, ws, bsz, bop, bbg, ben, ptx, edx, nrx, rtx, scx, wfx, wsx, bsx, box, bbx, bex, rfl, hI⟩ := hR
  have hI0 := hI
  obtain ⟨hl, hta, hV0, hra, hqn, hu, hSu, hU, hk, hSk, hK, hNI, hbx⟩ := hI
  dsimp only at hl hta hV0 hra hqn hu hSu hU hk hSk hK hNI hbx
  have hE : EqR (rn, ra) (rn, rb) := ⟨rfl, hra⟩
  have hV : RV (rn, ra) := RV_congr hE hV0
  have hrn : rn ≤ 40 := hV.1
  obtain ⟨e1, e2, hnr0, hrt0, hsc0, hB, hO, hbv⟩ := hNI
  dsimp only at e1 e2 hnr0 hrt0 hsc0 hB hO hbv
  subst e1
  subst e2
  have hTV := stP hV0 (Nat.le_refl rn)
  have hpt := hTV.1.1
  have hnr : ∀ p, p < 9 → nr p < 512 := fun p hp => by rw [hnr0 p hp]; exact hTV.1.2.1.1 p hp
  obtain ⟨hn1, hq1⟩ := BL_BQ hV0 hB
  have hbz : ∀ i, i < bsz → bbg i < 2 ^ 31 ∧ ben i < 2 ^ 31 := fun i hi => hbv i (by omega)
  have h0 : kn = 0 := h0
  subst h0
  refine Rn.in rfl rfl rfl ?_
  show WP _ _ _ _ 0 [.ref 0, .long 0] [] (zW tl ta rn ra qn qa un σ us 0 ρ ks ((stR rb rn).1) ((stR rb rn).2.1) nr rt sc wf ws bsz bop bbg ben ptx edx nrx rtx scx wfx wsx bsx box bbx bex suf)
  refine wq_aload_n rfl rfl ?_
  refine wq_getfield (v := .ref 21) rfl zo_0 rfl ?_
  refine wq_virt (b := 21) (a := []) (rest := []) rfl rfl rfl rfl rfl zo_21 ?_
  rw [zv_k]
  refine r_Shf_last0 (by rfl) (by omega) ?_
  rw [← zv_k]
  show WP _ _ _ _ 7 [.ref 0, .long 0] [.null] (zW tl ta rn ra qn qa un σ us 0 ρ ks ((stR rb rn).1) ((stR rb rn).2.1) nr rt sc wf ws bsz bop bbg ben ptx edx nrx rtx scx wfx wsx bsx box bbx bex suf)
  refine wq_astore_nN (lv' := [.ref 0, .null]) rfl rfl rfl ?_
  refine wq_aload_nN rfl rfl ?_
  refine wq_ifnonnullN rfl ?_
  refine wq_bipush (v := (-2)) rfl (by decide) ?_
  refine wq_iret rfl trivial ?_
  exact hQ _ ⟨_, _, _, _, _, _, _, _, _, _, _, _, _, _, _, _, _, _, _, _, _, _, _, _, _, _, _, _, _, _, rfl, hI0⟩
theorem C_back {d : Nat} {suf : mH} {A : AS} {h : mH} {Q : Option Value → mH → Prop} (hR : CIA suf A h) (hQ : ∀ h', CIA suf (f_back A).2 h' → Q (some (.int (f_back A).1)) h') : Rn mprog (d + 9) n_Z_back [.ref 0] h Q := by
  by_cases e : A.2.2.2.2.2.1 = 0
  · have q : f_back A = (-2, A) := by unfold f_back; rw [if_pos e]
    rw [q] at hQ
    exact C_back0 hR e hQ
  · exact C_back1 hR e hQ
theorem C_other1 {d : Nat} {suf : mH} {A : AS} {h : mH} {Q : Option Value → mH → Prop} (hR : CIA suf A h)  (h0 : A.2.2.2.2.2.1 ≠ 0) (hQ : ∀ h', CIA suf (f_other A ).2 h' → Q (some (.int (f_other A ).1)) h') : Rn mprog (d + 9) n_Z_other [.ref 0] h Q := by
  obtain ⟨tl, tb, ⟨rn, rb⟩, un, ua, kn, ka⟩ := A
  obtain ⟨ta, ra, qn, qa, σ, us, ρ, ks, pts, edg, nr, rt, sc, wf, ws, bsz, bop, bbg, ben, ptx, edx, nrx, rtx, scx, wfx, wsx, bsx, box, bbx, bex, rfl, hI⟩ := hR
  have hI0 := hI
  obtain ⟨hl, hta, hV0, hra, hqn, hu, hSu, hU, hk, hSk, hK, hNI, hbx⟩ := hI
  dsimp only at hl hta hV0 hra hqn hu hSu hU hk hSk hK hNI hbx
  have hE : EqR (rn, ra) (rn, rb) := ⟨rfl, hra⟩
  have hV : RV (rn, ra) := RV_congr hE hV0
  have hrn : rn ≤ 40 := hV.1
  obtain ⟨e1, e2, hnr0, hrt0, hsc0, hB, hO, hbv⟩ := hNI
  dsimp only at e1 e2 hnr0 hrt0 hsc0 hB hO hbv
  subst e1
  subst e2
  have hTV := stP hV0 (Nat.le_refl rn)
  have hpt := hTV.1.1
  have hnr : ∀ p, p < 9 → nr p < 512 := fun p hp => by rw [hnr0 p hp]; exact hTV.1.2.1.1 p hp
  obtain ⟨hn1, hq1⟩ := BL_BQ hV0 hB
  have hbz : ∀ i, i < bsz → bbg i < 2 ^ 31 ∧ ben i < 2 ^ 31 := fun i hi => hbv i (by omega)
  have h0 : kn ≠ 0 := h0
  obtain ⟨hK0, hK1⟩ := hK (kn - 1) (by omega)
  have h40 : (ks (ρ (kn - 1))).1 ≤ 40 := by rw [hK1.1]; exact hK0.1
  have hE9 : EqR ((ks (ρ (kn - 1))).1, cpA (ks (ρ (kn - 1))).2 ra (ks (ρ (kn - 1))).1) (ka (kn - 1)) := ⟨hK1.1, fun i hi => by have e := cpA_in (g := (ks (ρ (kn - 1))).2) (r := ra) hi; dsimp only; rw [e]; exact hK1.2 i hi⟩
  refine Rn.in rfl rfl rfl ?_
  show WP _ _ _ _ 0 [.ref 0, .long 0] [] (zW tl ta rn ra qn qa un σ us kn ρ ks ((stR rb rn).1) ((stR rb rn).2.1) nr rt sc wf ws bsz bop bbg ben ptx edx nrx rtx scx wfx wsx bsx box bbx bex suf)
  refine wq_aload_n rfl rfl ?_
  refine wq_getfield (v := .ref 21) rfl zo_0 rfl ?_
  refine wq_virt (b := 21) (a := []) (rest := []) rfl rfl rfl rfl rfl zo_21 ?_
  rw [zv_k]
  refine r_Shf_last (by rfl) (by omega) (by omega) (by omega) ?_
  rw [← zv_k]
  show WP _ _ _ _ 7 [.ref 0, .long 0] [.ref (21 + 2 + 2 * ρ (kn - 1))] (zW tl ta rn ra qn qa un σ us kn ρ ks ((stR rb rn).1) ((stR rb rn).2.1) nr rt sc wf ws bsz bop bbg ben ptx edx nrx rtx scx wfx wsx bsx box bbx bex suf)
  refine wq_astore_n (lv' := [.ref 0, .ref (21 + 2 + 2 * ρ (kn - 1))]) rfl rfl rfl ?_
  refine wq_aload_n rfl rfl ?_
  refine wq_ifnonnull rfl ?_
  refine wq_aload_n rfl rfl ?_
  refine wq_getfield (v := .ref 38) rfl zo_0 rfl ?_
  refine wq_aload_n rfl rfl ?_
  refine wq_aload_n rfl rfl ?_
  refine wq_virt (b := 21 + 2 + 2 * ρ (kn - 1)) (a := []) (rest := [.ref (21 + 2 + 2 * ρ (kn - 1)), .ref 38]) rfl rfl rfl rfl rfl (zk_get (hSk.1 _ (by omega))) ?_
  refine r_Row_size (ra := fun _ => 0) (zk_get ((hSk.1 _ (by omega)))) ?_
  show WP _ _ _ _ 24 [.ref 0, .ref (21 + 2 + 2 * ρ (kn - 1))] [.int (nI ((ks (ρ (kn - 1))).1)), .ref (21 + 2 + 2 * ρ (kn - 1)), .ref 38] (zW tl ta rn ra qn qa un σ us kn ρ ks ((stR rb rn).1) ((stR rb rn).2.1) nr rt sc wf ws bsz bop bbg ben ptx edx nrx rtx scx wfx wsx bsx box bbx bex suf)
  refine wq_virt (b := 38) (a := [.ref (21 + 2 + 2 * ρ (kn - 1)), .int (nI ((ks (ρ (kn - 1))).1))]) (rest := []) rfl rfl rfl rfl rfl zo_38 ?_
  have hVk : RV ((ks (ρ (kn - 1))).1, (ks (ρ (kn - 1))).2) := RV_congr hK1 hK0
  rw [zv_x]
  refine r_Sto_play (rn := (ks (ρ (kn - 1))).1) (ra := (ks (ρ (kn - 1))).2) (by rfl) h40 (Nat.le_refl _) hVk.2.1 (fun _ _ _ _ _ _ _ _ _ _ _ => by rw [← zv_x]; exact zk_get (hSk.1 _ (by omega))) (fun _ _ _ _ _ _ _ _ _ _ _ => by rw [← zv_x]; exact zk_get1 (hSk.1 _ (by omega))) hbx (fun _ ptx1 edx1 nrx1 rtx1 scx1 wfx1 wsx1 bsx1 box1 bbx1 bex1 bs1 hE1 hB1 hO1 hv1 => ?_) (fun z => absurd hVk.2.2 z)
  rw [← zv_x]
  have hBk : BL bsx1 bbx1 bex1 (bsR (ka (kn - 1)).2 (ka (kn - 1)).1) := by rw [← bsE hK1]; exact hB1
  obtain ⟨hn2, hq2⟩ := BL_BQ (rn := (ka (kn - 1)).1) (ra := (ka (kn - 1)).2) hK0 hBk
  show WP _ _ _ _ 27 [.ref 0, .ref (21 + 2 + 2 * ρ (kn - 1))] [.int (nI 1)] (zW tl ta rn ra qn qa un σ us kn ρ ks ((stR rb rn).1) ((stR rb rn).2.1) nr rt sc wf ws bsz bop bbg ben ptx1 edx1 nrx1 rtx1 scx1 wfx1 wsx1 bsx1 box1 bbx1 bex1 suf)
  refine wq_pop rfl rfl ?_
  refine wq_aload_n rfl rfl ?_
  refine wq_getfield (v := .ref 27) rfl zo_0 rfl ?_
  refine wq_getfield (v := .ref 35) rfl zo_27 rfl ?_
  refine wq_aload_n rfl rfl ?_
  refine wq_getfield (v := .ref 38) rfl zo_0 rfl ?_
  refine wq_getfield (v := .ref 46) rfl zo_38 rfl ?_
  refine wq_virt (b := 35) (a := [.ref 46]) (rest := []) rfl rfl rfl rfl rfl zo_35 ?_
  refine r_Bars_wp zo_35 zo_36b zo_37b hn1 zo_46 zo_47b zo_48b hn2 hbz (fun i hi => hv1 i (by omega)) ?_
  show WP _ _ _ _ 45 [.ref 0, .ref (21 + 2 + 2 * ρ (kn - 1))] [.int (nI (bsz - pzz bbg ben bbx1 bex1 bsz bsx1 (bsz + bsx1) 0 0))] (zW tl ta rn ra qn qa un σ us kn ρ ks ((stR rb rn).1) ((stR rb rn).2.1) nr rt sc wf ws bsz bop bbg ben ptx1 edx1 nrx1 rtx1 scx1 wfx1 wsx1 bsx1 box1 bbx1 bex1 suf)
  refine wq_iret rfl trivial ?_
  rw [BL_wp hB hBk]
  exact fin_ (P := CIA suf) (A' := (tl, tb, (rn, rb), un, ua, kn, ka)) hQ (by unfold f_other; (try dsimp only); (repeat first | rw [if_pos (by omega)] | rw [if_neg (by omega)]); try rfl) ⟨_, _, _, _, _, _, _, _, _, _, _, _, _, _, _, _, _, _, _, _, _, _, _, _, _, _, _, _, _, _, rfl, (CI_x hI0 hqn hv1)⟩
theorem C_other0 {d : Nat} {suf : mH} {A : AS} {h : mH} {Q : Option Value → mH → Prop} (hR : CIA suf A h) (h0 : A.2.2.2.2.2.1 = 0) (hQ : ∀ h', CIA suf A h' → Q (some (.int (-2))) h') : Rn mprog (d + 9) n_Z_other [.ref 0] h Q := by
  obtain ⟨tl, tb, ⟨rn, rb⟩, un, ua, kn, ka⟩ := A
  obtain ⟨ta, ra, qn, qa, σ, us, ρ, ks, pts, edg, nr, rt, sc, wf, ws, bsz, bop, bbg, ben, ptx, edx, nrx, rtx, scx, wfx, wsx, bsx, box, bbx, bex, rfl, hI⟩ := hR
  have hI0 := hI
  obtain ⟨hl, hta, hV0, hra, hqn, hu, hSu, hU, hk, hSk, hK, hNI, hbx⟩ := hI
  dsimp only at hl hta hV0 hra hqn hu hSu hU hk hSk hK hNI hbx
  have hE : EqR (rn, ra) (rn, rb) := ⟨rfl, hra⟩
  have hV : RV (rn, ra) := RV_congr hE hV0
  have hrn : rn ≤ 40 := hV.1
  obtain ⟨e1, e2, hnr0, hrt0, hsc0, hB, hO, hbv⟩ := hNI
  dsimp only at e1 e2 hnr0 hrt0 hsc0 hB hO hbv
  subst e1
  subst e2
  have hTV := stP hV0 (Nat.le_refl rn)
  have hpt := hTV.1.1
  have hnr : ∀ p, p < 9 → nr p < 512 := fun p hp => by rw [hnr0 p hp]; exact hTV.1.2.1.1 p hp
  obtain ⟨hn1, hq1⟩ := BL_BQ hV0 hB
  have hbz : ∀ i, i < bsz → bbg i < 2 ^ 31 ∧ ben i < 2 ^ 31 := fun i hi => hbv i (by omega)
  have h0 : kn = 0 := h0
  subst h0
  refine Rn.in rfl rfl rfl ?_
  show WP _ _ _ _ 0 [.ref 0, .long 0] [] (zW tl ta rn ra qn qa un σ us 0 ρ ks ((stR rb rn).1) ((stR rb rn).2.1) nr rt sc wf ws bsz bop bbg ben ptx edx nrx rtx scx wfx wsx bsx box bbx bex suf)
  refine wq_aload_n rfl rfl ?_
  refine wq_getfield (v := .ref 21) rfl zo_0 rfl ?_
  refine wq_virt (b := 21) (a := []) (rest := []) rfl rfl rfl rfl rfl zo_21 ?_
  rw [zv_k]
  refine r_Shf_last0 (by rfl) (by omega) ?_
  rw [← zv_k]
  show WP _ _ _ _ 7 [.ref 0, .long 0] [.null] (zW tl ta rn ra qn qa un σ us 0 ρ ks ((stR rb rn).1) ((stR rb rn).2.1) nr rt sc wf ws bsz bop bbg ben ptx edx nrx rtx scx wfx wsx bsx box bbx bex suf)
  refine wq_astore_nN (lv' := [.ref 0, .null]) rfl rfl rfl ?_
  refine wq_aload_nN rfl rfl ?_
  refine wq_ifnonnullN rfl ?_
  refine wq_bipush (v := (-2)) rfl (by decide) ?_
  refine wq_iret rfl trivial ?_
  exact hQ _ ⟨_, _, _, _, _, _, _, _, _, _, _, _, _, _, _, _, _, _, _, _, _, _, _, _, _, _, _, _, _, _, rfl, hI0⟩
theorem C_other {d : Nat} {suf : mH} {A : AS} {h : mH} {Q : Option Value → mH → Prop} (hR : CIA suf A h) (hQ : ∀ h', CIA suf (f_other A).2 h' → Q (some (.int (f_other A).1)) h') : Rn mprog (d + 9) n_Z_other [.ref 0] h Q := by
  by_cases e : A.2.2.2.2.2.1 = 0
  · have q : f_other A = (-2, A) := by unfold f_other; rw [if_pos e]
    rw [q] at hQ
    exact C_other0 hR e hQ
  · exact C_other1 hR e hQ
theorem swE {rn k : Nat} {ra rb : Nat → Nat} (h : EqR (rn, ra) (rn, rb)) (h2 : k < rn) : EqR (rn, swA ra k) (rn, swA rb k) := ⟨rfl, fun i hi => by
  have hi : i < rn := hi
  have hh : ∀ i, i < rn → ra i = rb i := h.2
  show swA ra k i = swA rb k i
  unfold swA
  rw [hh k h2, hh (k - 1) (by omega)]
  by_cases e : i = k
  · rw [e, uN_s, uN_s]
  · rw [uN_n e, uN_n e]
    by_cases e2 : i = k - 1
    · rw [e2, uN_s, uN_s]
    · rw [uN_n e2, uN_n e2, hh i hi]⟩
theorem C_exchange {d : Nat} {suf : mH} {A : AS} {h : mH} {Q : Option Value → mH → Prop} (hR : CIA suf A h) {k : Nat} (hk0 : k < 2 ^ 31)  (hQ : ∀ h', CIA suf (f_exch A k).2 h' → Q (some (.int (f_exch A k).1)) h') : Rn mprog (d + 9) n_Z_exchange [.ref 0, .int (nI k)] h Q := by
  obtain ⟨tl, tb, ⟨rn, rb⟩, un, ua, kn, ka⟩ := A
  obtain ⟨ta, ra, qn, qa, σ, us, ρ, ks, pts, edg, nr, rt, sc, wf, ws, bsz, bop, bbg, ben, ptx, edx, nrx, rtx, scx, wfx, wsx, bsx, box, bbx, bex, rfl, hI⟩ := hR
  have hI0 := hI
  obtain ⟨hl, hta, hV0, hra, hqn, hu, hSu, hU, hk, hSk, hK, hNI, hbx⟩ := hI
  dsimp only at hl hta hV0 hra hqn hu hSu hU hk hSk hK hNI hbx
  have hE : EqR (rn, ra) (rn, rb) := ⟨rfl, hra⟩
  have hV : RV (rn, ra) := RV_congr hE hV0
  have hrn : rn ≤ 40 := hV.1
  obtain ⟨e1, e2, hnr0, hrt0, hsc0, hB, hO, hbv⟩ := hNI
  dsimp only at e1 e2 hnr0 hrt0 hsc0 hB hO hbv
  subst e1
  subst e2
  have hTV := stP hV0 (Nat.le_refl rn)
  have hpt := hTV.1.1
  have hnr : ∀ p, p < 9 → nr p < 512 := fun p hp => by rw [hnr0 p hp]; exact hTV.1.2.1.1 p hp
  obtain ⟨hn1, hq1⟩ := BL_BQ hV0 hB
  have hbz : ∀ i, i < bsz → bbg i < 2 ^ 31 ∧ ben i < 2 ^ 31 := fun i hi => hbv i (by omega)
  refine Rn.in rfl rfl rfl ?_
  show WP _ _ _ _ 0 [.ref 0, .int (nI k), .long 0] [] (zW tl ta rn ra qn qa un σ us kn ρ ks ((stR rb rn).1) ((stR rb rn).2.1) nr rt sc wf ws bsz bop bbg ben ptx edx nrx rtx scx wfx wsx bsx box bbx bex suf)
  refine wq_iload_n rfl rfl ?_
  refine wq_iconst (v := nI 1) rfl (by decide) ?_
  refine wn_ic_lt rfl (by omega) (by omega) (fun c2 => ?_) (fun c2 => ?_)
  · skip
    refine wq_iconst (v := (-1)) rfl (by decide) ?_
    refine wq_iret rfl trivial ?_
    exact fin_ (P := CIA suf) (A' := (tl, tb, (rn, rb), un, ua, kn, ka)) hQ (by unfold f_exch; (try dsimp only); (repeat first | rw [if_pos (by omega)] | rw [if_neg (by omega)]); try rfl) ⟨_, _, _, _, _, _, _, _, _, _, _, _, _, _, _, _, _, _, _, _, _, _, _, _, _, _, _, _, _, _, rfl, hI0⟩
  · skip
    refine wq_iload_n rfl rfl ?_
    refine wq_aload_n rfl rfl ?_
    refine wq_getfield (v := .ref 3) rfl zo_0 rfl ?_
    refine wq_virt (b := 3) (a := []) (rest := [.int (nI k)]) rfl rfl rfl rfl rfl zo_3 ?_
    refine r_Row_size (ra := fun _ => 0) zo_3 ?_
    show WP _ _ _ _ 13 [.ref 0, .int (nI k), .long 0] [.int (nI rn), .int (nI k)] (zW tl ta rn ra qn qa un σ us kn ρ ks ((stR rb rn).1) ((stR rb rn).2.1) nr rt sc wf ws bsz bop bbg ben ptx edx nrx rtx scx wfx wsx bsx box bbx bex suf)
    refine wn_ic_lt rfl (by omega) (by omega) (fun c13 => ?_) (fun c13 => ?_)
    · skip
      refine wq_aload_n rfl rfl ?_
      refine wq_iload_n rfl rfl ?_
      refine wq_virt (b := 0) (a := [.int (nI k)]) (rest := []) rfl rfl rfl rfl rfl zo_0 ?_
      have hEs := swE (k := k) hE (by omega)
      refine r_Z_try hrn hV.2.1 (by omega) (by omega) hbx (fun hok qa' ptx1 edx1 nrx1 rtx1 scx1 wfx1 wsx1 bsx1 box1 bbx1 bex1 hEq hNIx => ?_) (fun hno qa' ptx1 edx1 nrx1 rtx1 scx1 wfx1 wsx1 bsx1 box1 bbx1 bex1 hv1 => ?_)
      · skip
        show WP _ _ _ _ 23 [.ref 0, .int (nI k), .long 0] [.int (nI 1)] (zW tl ta rn ra rn qa' un σ us kn ρ ks ((stR rb rn).1) ((stR rb rn).2.1) nr rt sc wf ws bsz bop bbg ben ptx1 edx1 nrx1 rtx1 scx1 wfx1 wsx1 bsx1 box1 bbx1 bex1 suf)
        refine wq_if_ne rfl (fun _ => ?_) (fun c => absurd c (by decide))
        have hok2 : okR (swA rb k) rn := (okR_congr hEs.2).mp hok
        have hNIy := NI_congr hEs hNIx
        have hv1 := hNIx.2.2.2.2.2.2.2
        have hVs : RV (rn, swA rb k) := ⟨hrn, sw_AV hV0.2.1 (by show k < rn; omega), hok2⟩
        have hB2 := hNIy.2.2.2.2.2.1
        obtain ⟨hn2, hq2⟩ := BL_BQ hVs hB2
        refine wq_aload_n rfl rfl ?_
        refine wq_getfield (v := .ref 27) rfl zo_0 rfl ?_
        refine wq_getfield (v := .ref 35) rfl zo_27 rfl ?_
        refine wq_aload_n rfl rfl ?_
        refine wq_getfield (v := .ref 38) rfl zo_0 rfl ?_
        refine wq_getfield (v := .ref 46) rfl zo_38 rfl ?_
        refine wq_virt (b := 35) (a := [.ref 46]) (rest := []) rfl rfl rfl rfl rfl zo_35 ?_
        refine r_Bars_wp zo_35 zo_36b zo_37b hn1 zo_46 zo_47b zo_48b hn2 hbz (fun i hi => hv1 i (by omega)) ?_
        show WP _ _ _ _ 46 [.ref 0, .int (nI k), .long 0] [.int (nI (bsz - pzz bbg ben bbx1 bex1 bsz bsx1 (bsz + bsx1) 0 0))] (zW tl ta rn ra rn qa' un σ us kn ρ ks ((stR rb rn).1) ((stR rb rn).2.1) nr rt sc wf ws bsz bop bbg ben ptx1 edx1 nrx1 rtx1 scx1 wfx1 wsx1 bsx1 box1 bbx1 bex1 suf)
        refine wq_istore_n (lv' := [.ref 0, .int (nI k), .int (nI (bsz - pzz bbg ben bbx1 bex1 bsz bsx1 (bsz + bsx1) 0 0))]) rfl rfl rfl ?_
        refine wq_aload_n rfl rfl ?_
        refine wq_getfield (v := .ref 7) rfl zo_0 rfl ?_
        refine wq_aload_n rfl rfl ?_
        refine wq_getfield (v := .ref 3) rfl zo_0 rfl ?_
        refine wq_virt (b := 7) (a := [.ref 3]) (rest := []) rfl rfl rfl rfl rfl zo_7 ?_
        rw [zv_u]
        refine r_Shf_put (rn := rn) (ra := ra) (by rfl) (by omega) (by omega) hSu (by omega) (by omega) (fun _ _ _ => by rfl) (fun _ _ _ => by rfl) ?_
        intro σ1 us1 hSu1 hpu1 hpu2
        rw [← zv_u]
        show WP _ _ _ _ 58 [.ref 0, .int (nI k), .int (nI (bsz - pzz bbg ben bbx1 bex1 bsz bsx1 (bsz + bsx1) 0 0))] [] (zW tl ta rn ra rn qa' (pz 6 un) σ1 us1 kn ρ ks ((stR rb rn).1) ((stR rb rn).2.1) nr rt sc wf ws bsz bop bbg ben ptx1 edx1 nrx1 rtx1 scx1 wfx1 wsx1 bsx1 box1 bbx1 bex1 suf)
        refine wq_aload_n rfl rfl ?_
        refine wq_getfield (v := .ref 3) rfl zo_0 rfl ?_
        refine wq_aload_n rfl rfl ?_
        refine wq_getfield (v := .ref 5) rfl zo_0 rfl ?_
        refine wq_virt (b := 3) (a := [.ref 5]) (rest := []) rfl rfl rfl rfl rfl zo_3 ?_
        rw [zv_r]
        refine r_Row_copy (m := rn) (g := qa') (by rfl) (by omega) (fun _ _ => by rfl) (fun _ _ => by rfl) ?_
        rw [← zv_r]
        show WP _ _ _ _ 69 [.ref 0, .int (nI k), .int (nI (bsz - pzz bbg ben bbx1 bex1 bsz bsx1 (bsz + bsx1) 0 0))] [] (zW tl ta rn (cpA qa' ra rn) rn qa' (pz 6 un) σ1 us1 kn ρ ks ((stR rb rn).1) ((stR rb rn).2.1) nr rt sc wf ws bsz bop bbg ben ptx1 edx1 nrx1 rtx1 scx1 wfx1 wsx1 bsx1 box1 bbx1 bex1 suf)
        have hE9 : EqR (rn, cpA qa' ra rn) (rn, swA rb k) := EqR_tr (s := (rn, qa')) ⟨rfl, fun i hi => cpA_in hi⟩ (EqR_tr hEq hEs)
        refine wq_aload_n rfl rfl ?_
        refine wq_virt (b := 0) (a := []) (rest := []) rfl rfl rfl rfl rfl zo_0 ?_
        refine r_Z_tell (RV_congr hE9 hVs) hbv ?_
        intro pts1 edg1 nr1 rt1 sc1 wf1 ws1 bsz1 bop1 bbg1 ben1 hNI1
        show WP _ _ _ _ 73 [.ref 0, .int (nI k), .int (nI (bsz - pzz bbg ben bbx1 bex1 bsz bsx1 (bsz + bsx1) 0 0))] [] (zW tl ta rn (cpA qa' ra rn) rn qa' (pz 6 un) σ1 us1 kn ρ ks pts1 edg1 nr1 rt1 sc1 wf1 ws1 bsz1 bop1 bbg1 ben1 ptx1 edx1 nrx1 rtx1 scx1 wfx1 wsx1 bsx1 box1 bbx1 bex1 suf)
        refine wq_iload_n rfl rfl ?_
        refine wq_iret rfl trivial ?_
        have hob : okB (swA rb k) rn = true := (okB_iff rn).mpr hok2
        rw [BL_wp hB hB2]
        exact fin_ (P := CIA suf) (A' := sR (nT (tl, tb, (rn, rb), un, ua, kn, ka)) (rn, swA rb k)) hQ (by unfold f_exch; (try dsimp only); (repeat first | rw [if_pos (by omega)] | rw [if_neg (by omega)] | rw [if_pos hob] | rw [if_neg (by rw [hob]; decide)]); try rfl) ⟨_, _, _, _, _, _, _, _, _, _, _, _, _, _, _, _, _, _, _, _, _, _, _, _, _, _, _, _, _, _, rfl, (CI_put hI0 hSu1 hpu1 hpu2 hVs hE9.2 hrn (NI_congr hE9 hNI1) hv1)⟩
      · skip
        show WP _ _ _ _ 23 [.ref 0, .int (nI k), .long 0] [.int (nI 0)] (zW tl ta rn ra rn qa' un σ us kn ρ ks ((stR rb rn).1) ((stR rb rn).2.1) nr rt sc wf ws bsz bop bbg ben ptx1 edx1 nrx1 rtx1 scx1 wfx1 wsx1 bsx1 box1 bbx1 bex1 suf)
        refine wq_if_ne rfl (fun c => absurd c (by decide)) (fun _ => ?_)
        refine wq_bipush (v := (-2)) rfl (by decide) ?_
        refine wq_iret rfl trivial ?_
        have hob : okB (swA rb k) rn = false := by cases z : okB (swA rb k) rn with | false => rfl | true => exact absurd ((okR_congr hEs.2).mpr ((okB_iff rn).mp z)) hno
        exact fin_ (P := CIA suf) (A' := (tl, tb, (rn, rb), un, ua, kn, ka)) hQ (by unfold f_exch; (try dsimp only); (repeat first | rw [if_pos (by omega)] | rw [if_neg (by omega)] | rw [if_pos hob] | rw [if_neg (by rw [hob]; decide)]); try rfl) ⟨_, _, _, _, _, _, _, _, _, _, _, _, _, _, _, _, _, _, _, _, _, _, _, _, _, _, _, _, _, _, rfl, (CI_x hI0 hrn hv1)⟩
    · skip
      refine wq_iconst (v := (-1)) rfl (by decide) ?_
      refine wq_iret rfl trivial ?_
      exact fin_ (P := CIA suf) (A' := (tl, tb, (rn, rb), un, ua, kn, ka)) hQ (by unfold f_exch; (try dsimp only); (repeat first | rw [if_pos (by omega)] | rw [if_neg (by omega)]); try rfl) ⟨_, _, _, _, _, _, _, _, _, _, _, _, _, _, _, _, _, _, _, _, _, _, _, _, _, _, _, _, _, _, rfl, hI0⟩
theorem C_exchange_neg {d : Nat} {suf : mH} {A : AS} {h : mH} {Q : Option Value → mH → Prop} (hR : CIA suf A h) {v1 : Int32} (hneg : v1 < 0) (hQ : ∀ h', CIA suf A h' → Q (some (.int (-1))) h') : Rn mprog (d + 9) n_Z_exchange [.ref 0, .int v1] h Q := by
  obtain ⟨tl, tb, ⟨rn, rb⟩, un, ua, kn, ka⟩ := A
  obtain ⟨ta, ra, qn, qa, σ, us, ρ, ks, pts, edg, nr, rt, sc, wf, ws, bsz, bop, bbg, ben, ptx, edx, nrx, rtx, scx, wfx, wsx, bsx, box, bbx, bex, rfl, hI⟩ := hR
  have hI0 := hI
  obtain ⟨hl, hta, hV0, hra, hqn, hu, hSu, hU, hk, hSk, hK, hNI, hbx⟩ := hI
  dsimp only at hl hta hV0 hra hqn hu hSu hU hk hSk hK hNI hbx
  have hE : EqR (rn, ra) (rn, rb) := ⟨rfl, hra⟩
  have hV : RV (rn, ra) := RV_congr hE hV0
  have hrn : rn ≤ 40 := hV.1
  obtain ⟨e1, e2, hnr0, hrt0, hsc0, hB, hO, hbv⟩ := hNI
  dsimp only at e1 e2 hnr0 hrt0 hsc0 hB hO hbv
  subst e1
  subst e2
  have hTV := stP hV0 (Nat.le_refl rn)
  have hpt := hTV.1.1
  have hnr : ∀ p, p < 9 → nr p < 512 := fun p hp => by rw [hnr0 p hp]; exact hTV.1.2.1.1 p hp
  obtain ⟨hn1, hq1⟩ := BL_BQ hV0 hB
  have hbz : ∀ i, i < bsz → bbg i < 2 ^ 31 ∧ ben i < 2 ^ 31 := fun i hi => hbv i (by omega)
  refine Rn.in rfl rfl rfl ?_
  show WP _ _ _ _ 0 [.ref 0, .int v1, .long 0] [] (zW tl ta rn ra qn qa un σ us kn ρ ks ((stR rb rn).1) ((stR rb rn).2.1) nr rt sc wf ws bsz bop bbg ben ptx edx nrx rtx scx wfx wsx bsx box bbx bex suf)
  refine wq_iload_n rfl rfl ?_
  refine wq_iconst (v := nI 1) rfl (by decide) ?_
  refine wq_ic_lt rfl (fun c2 => ?_) (fun c2 => absurd c2 (fun z => z (nI_neg hneg (by decide))))
  refine wq_iconst (v := (-1)) rfl (by decide) ?_
  refine wq_iret rfl trivial ?_
  exact hQ _ ⟨_, _, _, _, _, _, _, _, _, _, _, _, _, _, _, _, _, _, _, _, _, _, _, _, _, _, _, _, _, _, rfl, hI0⟩
theorem nI_gt6 {w : Nat} (h : 6 < w) (hw : w < 2 ^ 31) : (6 : Int) < (nI w).toInt := by
  have q : nI 6 < nI w := (nI_ltI (by decide) hw).mpr h
  rw [Int32.lt_iff_toInt_lt] at q
  exact q
theorem C_count1 {d : Nat} {suf : mH} {A : AS} {h : mH} {Q : Option Value → mH → Prop} (hR : CIA suf A h) {w : Nat} (hw0 : w < 2 ^ 31) (h6 : w ≤ 6) (hQ : ∀ h', CIA suf (f_count A w).2 h' → Q (some (.int (f_count A w).1)) h') : Rn mprog (d + 9) n_Z_count [.ref 0, .int (nI w)] h Q := by
  obtain ⟨tl, tb, ⟨rn, rb⟩, un, ua, kn, ka⟩ := A
  obtain ⟨ta, ra, qn, qa, σ, us, ρ, ks, pts, edg, nr, rt, sc, wf, ws, bsz, bop, bbg, ben, ptx, edx, nrx, rtx, scx, wfx, wsx, bsx, box, bbx, bex, rfl, hI⟩ := hR
  have hI0 := hI
  obtain ⟨hl, hta, hV0, hra, hqn, hu, hSu, hU, hk, hSk, hK, hNI, hbx⟩ := hI
  dsimp only at hl hta hV0 hra hqn hu hSu hU hk hSk hK hNI hbx
  have hE : EqR (rn, ra) (rn, rb) := ⟨rfl, hra⟩
  have hV : RV (rn, ra) := RV_congr hE hV0
  have hrn : rn ≤ 40 := hV.1
  obtain ⟨e1, e2, hnr0, hrt0, hsc0, hB, hO, hbv⟩ := hNI
  dsimp only at e1 e2 hnr0 hrt0 hsc0 hB hO hbv
  subst e1
  subst e2
  have hTV := stP hV0 (Nat.le_refl rn)
  have hpt := hTV.1.1
  have hnr : ∀ p, p < 9 → nr p < 512 := fun p hp => by rw [hnr0 p hp]; exact hTV.1.2.1.1 p hp
  obtain ⟨hn1, hq1⟩ := BL_BQ hV0 hB
  have hbz : ∀ i, i < bsz → bbg i < 2 ^ 31 ∧ ben i < 2 ^ 31 := fun i hi => hbv i (by omega)
  refine Rn.in rfl rfl rfl ?_
  show WP _ _ _ _ 0 [.ref 0, .int (nI w)] [] (zW tl ta rn ra qn qa un σ us kn ρ ks ((stR rb rn).1) ((stR rb rn).2.1) nr rt sc wf ws bsz bop bbg ben ptx edx nrx rtx scx wfx wsx bsx box bbx bex suf)
  refine wq_iload_n rfl rfl ?_
  rcases (by omega : w = 0 ∨ w = 1 ∨ w = 2 ∨ w = 3 ∨ w = 4 ∨ w = 5 ∨ w = 6) with e1 | e1 | e1 | e1 | e1 | e1 | e1
  · refine wq_tsw (t := 44) rfl (by rw [e1]; decide) ?_
    refine wq_aload_n rfl rfl ?_
    refine wq_getfield (v := .ref 3) rfl zo_0 rfl ?_
    refine wq_virt (b := 3) (a := []) (rest := []) rfl rfl rfl rfl rfl zo_3 ?_
    refine r_Row_size (ra := fun _ => 0) zo_3 ?_
    show WP _ _ _ _ 51 [.ref 0, .int (nI w)] [.int (nI rn)] (zW tl ta rn ra qn qa un σ us kn ρ ks ((stR rb rn).1) ((stR rb rn).2.1) nr rt sc wf ws bsz bop bbg ben ptx edx nrx rtx scx wfx wsx bsx box bbx bex suf)
    refine wq_iret rfl trivial ?_
    exact fin_ (P := CIA suf) (A' := (tl, tb, (rn, rb), un, ua, kn, ka)) hQ (by unfold f_count; (try dsimp only); (repeat first | rw [if_pos (by omega)] | rw [if_neg (by omega)]); try rfl) ⟨_, _, _, _, _, _, _, _, _, _, _, _, _, _, _, _, _, _, _, _, _, _, _, _, _, _, _, _, _, _, rfl, hI0⟩
  · refine wq_tsw (t := 52) rfl (by rw [e1]; decide) ?_
    refine wq_aload_n rfl rfl ?_
    refine wq_getfield (v := .ref 27) rfl zo_0 rfl ?_
    refine wq_getfield (v := .ref 28) rfl zo_27 rfl ?_
    refine wq_virt (b := 28) (a := []) (rest := []) rfl rfl rfl rfl rfl zo_28 ?_
    rw [zv_ns]
    refine r_Net_points (by rfl) ?_
    rw [← zv_ns]
    show WP _ _ _ _ 62 [.ref 0, .int (nI w)] [.int (nI ((stR rb rn).1))] (zW tl ta rn ra qn qa un σ us kn ρ ks ((stR rb rn).1) ((stR rb rn).2.1) nr rt sc wf ws bsz bop bbg ben ptx edx nrx rtx scx wfx wsx bsx box bbx bex suf)
    refine wq_stat (a := [.int (nI ((stR rb rn).1))]) (rest := []) rfl rfl rfl rfl rfl ?_
    refine r_bitCount (by omega) ?_
    show WP _ _ _ _ 65 [.ref 0, .int (nI w)] [.int (nI (popc ((stR rb rn).1) 9))] (zW tl ta rn ra qn qa un σ us kn ρ ks ((stR rb rn).1) ((stR rb rn).2.1) nr rt sc wf ws bsz bop bbg ben ptx edx nrx rtx scx wfx wsx bsx box bbx bex suf)
    refine wq_iret rfl trivial ?_
    exact fin_ (P := CIA suf) (A' := (tl, tb, (rn, rb), un, ua, kn, ka)) hQ (by unfold f_count; (try dsimp only); (repeat first | rw [if_pos (by omega)] | rw [if_neg (by omega)]); try rfl) ⟨_, _, _, _, _, _, _, _, _, _, _, _, _, _, _, _, _, _, _, _, _, _, _, _, _, _, _, _, _, _, rfl, hI0⟩
  · refine wq_tsw (t := 66) rfl (by rw [e1]; decide) ?_
    refine wq_aload_n rfl rfl ?_
    refine wq_getfield (v := .ref 27) rfl zo_0 rfl ?_
    refine wq_getfield (v := .ref 28) rfl zo_27 rfl ?_
    refine wq_virt (b := 28) (a := []) (rest := []) rfl rfl rfl rfl rfl zo_28 ?_
    rw [zv_ns]
    refine r_Net_edges (by rfl) ?_
    rw [← zv_ns]
    show WP _ _ _ _ 76 [.ref 0, .int (nI w)] [.int (nI ((stR rb rn).2.1))] (zW tl ta rn ra qn qa un σ us kn ρ ks ((stR rb rn).1) ((stR rb rn).2.1) nr rt sc wf ws bsz bop bbg ben ptx edx nrx rtx scx wfx wsx bsx box bbx bex suf)
    refine wq_iret rfl trivial ?_
    exact fin_ (P := CIA suf) (A' := (tl, tb, (rn, rb), un, ua, kn, ka)) hQ (by unfold f_count; (try dsimp only); (repeat first | rw [if_pos (by omega)] | rw [if_neg (by omega)]); try rfl) ⟨_, _, _, _, _, _, _, _, _, _, _, _, _, _, _, _, _, _, _, _, _, _, _, _, _, _, _, _, _, _, rfl, hI0⟩
  · refine wq_tsw (t := 77) rfl (by rw [e1]; decide) ?_
    refine wq_aload_n rfl rfl ?_
    refine wq_getfield (v := .ref 27) rfl zo_0 rfl ?_
    refine wq_getfield (v := .ref 28) rfl zo_27 rfl ?_
    refine wq_virt (b := 28) (a := []) (rest := []) rfl rfl rfl rfl rfl zo_28 ?_
    obtain ⟨po9, pcs9, hL9, -⟩ := hTV.2.2.1
    rw [zv_ns]
    refine r_Net_pieces (by rfl) hpt hnr (Lab_congr hnr0 hL9) ?_
    rw [npT_eq hTV.1.2.1 hL9, ← zv_ns]
    show WP _ _ _ _ 87 [.ref 0, .int (nI w)] [.int (nI (npT (stR rb rn)))] (zW tl ta rn ra qn qa un σ us kn ρ ks ((stR rb rn).1) ((stR rb rn).2.1) nr rt sc wf ws bsz bop bbg ben ptx edx nrx rtx scx wfx wsx bsx box bbx bex suf)
    refine wq_iret rfl trivial ?_
    exact fin_ (P := CIA suf) (A' := (tl, tb, (rn, rb), un, ua, kn, ka)) hQ (by unfold f_count; (try dsimp only); (repeat first | rw [if_pos (by omega)] | rw [if_neg (by omega)]); try rfl) ⟨_, _, _, _, _, _, _, _, _, _, _, _, _, _, _, _, _, _, _, _, _, _, _, _, _, _, _, _, _, _, rfl, hI0⟩
  · refine wq_tsw (t := 88) rfl (by rw [e1]; decide) ?_
    refine wq_aload_n rfl rfl ?_
    refine wq_getfield (v := .ref 7) rfl zo_0 rfl ?_
    refine wq_virt (b := 7) (a := []) (rest := []) rfl rfl rfl rfl rfl zo_7 ?_
    rw [zv_u]
    refine r_Shf_size (by rfl) ?_
    rw [← zv_u]
    show WP _ _ _ _ 95 [.ref 0, .int (nI w)] [.int (nI un)] (zW tl ta rn ra qn qa un σ us kn ρ ks ((stR rb rn).1) ((stR rb rn).2.1) nr rt sc wf ws bsz bop bbg ben ptx edx nrx rtx scx wfx wsx bsx box bbx bex suf)
    refine wq_iret rfl trivial ?_
    exact fin_ (P := CIA suf) (A' := (tl, tb, (rn, rb), un, ua, kn, ka)) hQ (by unfold f_count; (try dsimp only); (repeat first | rw [if_pos (by omega)] | rw [if_neg (by omega)]); try rfl) ⟨_, _, _, _, _, _, _, _, _, _, _, _, _, _, _, _, _, _, _, _, _, _, _, _, _, _, _, _, _, _, rfl, hI0⟩
  · refine wq_tsw (t := 96) rfl (by rw [e1]; decide) ?_
    refine wq_aload_n rfl rfl ?_
    refine wq_getfield (v := .ref 1) rfl zo_0 rfl ?_
    refine wq_virt (b := 1) (a := []) (rest := []) rfl rfl rfl rfl rfl zo_1 ?_
    rw [zv_t]
    refine r_Txt_length (by rfl) ?_
    rw [← zv_t]
    show WP _ _ _ _ 103 [.ref 0, .int (nI w)] [.int (nI tl)] (zW tl ta rn ra qn qa un σ us kn ρ ks ((stR rb rn).1) ((stR rb rn).2.1) nr rt sc wf ws bsz bop bbg ben ptx edx nrx rtx scx wfx wsx bsx box bbx bex suf)
    refine wq_iret rfl trivial ?_
    exact fin_ (P := CIA suf) (A' := (tl, tb, (rn, rb), un, ua, kn, ka)) hQ (by unfold f_count; (try dsimp only); (repeat first | rw [if_pos (by omega)] | rw [if_neg (by omega)]); try rfl) ⟨_, _, _, _, _, _, _, _, _, _, _, _, _, _, _, _, _, _, _, _, _, _, _, _, _, _, _, _, _, _, rfl, hI0⟩
  · refine wq_tsw (t := 104) rfl (by rw [e1]; decide) ?_
    refine wq_aload_n rfl rfl ?_
    refine wq_getfield (v := .ref 21) rfl zo_0 rfl ?_
    refine wq_virt (b := 21) (a := []) (rest := []) rfl rfl rfl rfl rfl zo_21 ?_
    rw [zv_k]
    refine r_Shf_size (by rfl) ?_
    rw [← zv_k]
    show WP _ _ _ _ 111 [.ref 0, .int (nI w)] [.int (nI kn)] (zW tl ta rn ra qn qa un σ us kn ρ ks ((stR rb rn).1) ((stR rb rn).2.1) nr rt sc wf ws bsz bop bbg ben ptx edx nrx rtx scx wfx wsx bsx box bbx bex suf)
    refine wq_iret rfl trivial ?_
    exact fin_ (P := CIA suf) (A' := (tl, tb, (rn, rb), un, ua, kn, ka)) hQ (by unfold f_count; (try dsimp only); (repeat first | rw [if_pos (by omega)] | rw [if_neg (by omega)]); try rfl) ⟨_, _, _, _, _, _, _, _, _, _, _, _, _, _, _, _, _, _, _, _, _, _, _, _, _, _, _, _, _, _, rfl, hI0⟩
theorem C_count2 {d : Nat} {suf : mH} {A : AS} {h : mH} {Q : Option Value → mH → Prop} (hR : CIA suf A h) {w : Nat} (hw0 : w < 2 ^ 31) (h6 : 6 < w) (hQ : ∀ h', CIA suf (f_count A w).2 h' → Q (some (.int (f_count A w).1)) h') : Rn mprog (d + 9) n_Z_count [.ref 0, .int (nI w)] h Q := by
  obtain ⟨tl, tb, ⟨rn, rb⟩, un, ua, kn, ka⟩ := A
  obtain ⟨ta, ra, qn, qa, σ, us, ρ, ks, pts, edg, nr, rt, sc, wf, ws, bsz, bop, bbg, ben, ptx, edx, nrx, rtx, scx, wfx, wsx, bsx, box, bbx, bex, rfl, hI⟩ := hR
  have hI0 := hI
  obtain ⟨hl, hta, hV0, hra, hqn, hu, hSu, hU, hk, hSk, hK, hNI, hbx⟩ := hI
  dsimp only at hl hta hV0 hra hqn hu hSu hU hk hSk hK hNI hbx
  have hE : EqR (rn, ra) (rn, rb) := ⟨rfl, hra⟩
  have hV : RV (rn, ra) := RV_congr hE hV0
  have hrn : rn ≤ 40 := hV.1
  obtain ⟨e1, e2, hnr0, hrt0, hsc0, hB, hO, hbv⟩ := hNI
  dsimp only at e1 e2 hnr0 hrt0 hsc0 hB hO hbv
  subst e1
  subst e2
  have hTV := stP hV0 (Nat.le_refl rn)
  have hpt := hTV.1.1
  have hnr : ∀ p, p < 9 → nr p < 512 := fun p hp => by rw [hnr0 p hp]; exact hTV.1.2.1.1 p hp
  obtain ⟨hn1, hq1⟩ := BL_BQ hV0 hB
  have hbz : ∀ i, i < bsz → bbg i < 2 ^ 31 ∧ ben i < 2 ^ 31 := fun i hi => hbv i (by omega)
  refine Rn.in rfl rfl rfl ?_
  show WP _ _ _ _ 0 [.ref 0, .int (nI w)] [] (zW tl ta rn ra qn qa un σ us kn ρ ks ((stR rb rn).1) ((stR rb rn).2.1) nr rt sc wf ws bsz bop bbg ben ptx edx nrx rtx scx wfx wsx bsx box bbx bex suf)
  refine wq_iload_n rfl rfl ?_
  refine wq_tsw (t := 112) rfl (by rw [sw_def (Or.inr (nI_gt6 h6 hw0))]; rfl) ?_
  refine wq_iconst (v := (-1)) rfl (by decide) ?_
  refine wq_iret rfl trivial ?_
  exact fin_ (P := CIA suf) (A' := (tl, tb, (rn, rb), un, ua, kn, ka)) hQ (by unfold f_count; (try dsimp only); (repeat first | rw [if_pos (by omega)] | rw [if_neg (by omega)]); try rfl) ⟨_, _, _, _, _, _, _, _, _, _, _, _, _, _, _, _, _, _, _, _, _, _, _, _, _, _, _, _, _, _, rfl, hI0⟩
theorem C_count {d : Nat} {suf : mH} {A : AS} {h : mH} {Q : Option Value → mH → Prop} (hR : CIA suf A h) {w : Nat} (hw0 : w < 2 ^ 31) (hQ : ∀ h', CIA suf (f_count A w).2 h' → Q (some (.int (f_count A w).1)) h') : Rn mprog (d + 9) n_Z_count [.ref 0, .int (nI w)] h Q := by
  rcases Nat.lt_or_ge 6 w with e | e
  · exact C_count2 hR hw0 e hQ
  · exact C_count1 hR hw0 e hQ
theorem C_count_neg {d : Nat} {suf : mH} {A : AS} {h : mH} {Q : Option Value → mH → Prop} (hR : CIA suf A h) {v1 : Int32} (hneg : v1 < 0) (hQ : ∀ h', CIA suf A h' → Q (some (.int (-1))) h') : Rn mprog (d + 9) n_Z_count [.ref 0, .int v1] h Q := by
  obtain ⟨tl, tb, ⟨rn, rb⟩, un, ua, kn, ka⟩ := A
  obtain ⟨ta, ra, qn, qa, σ, us, ρ, ks, pts, edg, nr, rt, sc, wf, ws, bsz, bop, bbg, ben, ptx, edx, nrx, rtx, scx, wfx, wsx, bsx, box, bbx, bex, rfl, hI⟩ := hR
  have hI0 := hI
  obtain ⟨hl, hta, hV0, hra, hqn, hu, hSu, hU, hk, hSk, hK, hNI, hbx⟩ := hI
  dsimp only at hl hta hV0 hra hqn hu hSu hU hk hSk hK hNI hbx
  have hE : EqR (rn, ra) (rn, rb) := ⟨rfl, hra⟩
  have hV : RV (rn, ra) := RV_congr hE hV0
  have hrn : rn ≤ 40 := hV.1
  obtain ⟨e1, e2, hnr0, hrt0, hsc0, hB, hO, hbv⟩ := hNI
  dsimp only at e1 e2 hnr0 hrt0 hsc0 hB hO hbv
  subst e1
  subst e2
  have hTV := stP hV0 (Nat.le_refl rn)
  have hpt := hTV.1.1
  have hnr : ∀ p, p < 9 → nr p < 512 := fun p hp => by rw [hnr0 p hp]; exact hTV.1.2.1.1 p hp
  obtain ⟨hn1, hq1⟩ := BL_BQ hV0 hB
  have hbz : ∀ i, i < bsz → bbg i < 2 ^ 31 ∧ ben i < 2 ^ 31 := fun i hi => hbv i (by omega)
  refine Rn.in rfl rfl rfl ?_
  show WP _ _ _ _ 0 [.ref 0, .int v1] [] (zW tl ta rn ra qn qa un σ us kn ρ ks ((stR rb rn).1) ((stR rb rn).2.1) nr rt sc wf ws bsz bop bbg ben ptx edx nrx rtx scx wfx wsx bsx box bbx bex suf)
  refine wq_iload_n rfl rfl ?_
  refine wq_tsw (t := 112) rfl (by rw [sw_def (Or.inl (by rw [Int32.lt_iff_toInt_lt] at hneg; exact hneg))]; rfl) ?_
  refine wq_iconst (v := (-1)) rfl (by decide) ?_
  refine wq_iret rfl trivial ?_
  exact hQ _ ⟨_, _, _, _, _, _, _, _, _, _, _, _, _, _, _, _, _, _, _, _, _, _, _, _, _, _, _, _, _, _, rfl, hI0⟩
