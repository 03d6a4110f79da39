/-! the class: what its calls share -/
theorem RV_congr {r r' : Rw} (h : EqR r r') (hV : RV r') : RV r := by
  obtain ⟨h1, h2⟩ := h
  obtain ⟨v1, v2, v3⟩ := hV
  rw [← h1] at v1 v2 v3
  exact ⟨v1, fun i hi => by rw [h2 i hi]; exact v2 i hi, (okR_congr h2).mpr v3⟩
theorem stE {r r' : Rw} (h : EqR r r') {k : Nat} (hk : k ≤ r.1) : stR r.2 k = stR r'.2 k := stR_congr k (fun i hi => h.2 i (by omega))
theorem stE' {r r' : Rw} (h : EqR r r') : stR r.2 r.1 = stR r'.2 r'.1 := by rw [stE h (Nat.le_refl _), h.1]
theorem bsE {r r' : Rw} (h : EqR r r') : bsR r.2 r.1 = bsR r'.2 r'.1 := by unfold bsR; rw [stE' h]
/-- a story is the one of a row -/
def NI (r : Rw) (pts edg : Nat) (nr rt : Nat → Nat) (sc : Nat → Nat → Nat) (bsz bop : Nat) (bbg ben : Nat → Nat) : Prop :=
  pts = (stR r.2 r.1).1 ∧ edg = (stR r.2 r.1).2.1 ∧ (∀ p, p < 9 → nr p = (stR r.2 r.1).2.2.1 p) ∧ (∀ p, p < 9 → rt p = (stR r.2 r.1).2.2.2.1 p) ∧ (∀ p q, p < 9 → q < 9 → sc p q = (stR r.2 r.1).2.2.2.2.1 p q) ∧ BL bsz bbg ben (bsR r.2 r.1) ∧ bop = (opT (stR r.2 r.1)).length ∧ ∀ i, i < 40 → bbg i < 2 ^ 31 ∧ ben i < 2 ^ 31
theorem NI_congr {r r' : Rw} (h : EqR r r') {pts edg bsz bop : Nat} {nr rt bbg ben : Nat → Nat} {sc : Nat → Nat → Nat} (hn : NI r pts edg nr rt sc bsz bop bbg ben) : NI r' pts edg nr rt sc bsz bop bbg ben := by
  unfold NI at hn ⊢
  rw [← stE' h, ← bsE h]
  exact hn
theorem NI_of {r : Rw} {k : Nat} (e : k = r.1) {pts edg bsz bop : Nat} {nr rt bbg ben : Nat → Nat} {sc : Nat → Nat → Nat} {bs : List (Nat × Nat)} (hE : EqT (pts, edg, nr, rt, sc, bs) (stR r.2 k)) (hB : BL bsz bbg ben (bsR r.2 k)) (hO : bop = (opT (stR r.2 k)).length) (hv : ∀ i, i < 40 → bbg i < 2 ^ 31 ∧ ben i < 2 ^ 31) : NI r pts edg nr rt sc bsz bop bbg ben := by
  subst e
  exact ⟨hE.1, hE.2.1, hE.2.2.1, hE.2.2.2.1, hE.2.2.2.2.1, hB, hO, hv⟩
theorem r_Bc_size {d c bsz bop : Nat} {h : mH} {Q : Option Value → mH → Prop} (ho : h[c]? = some (.inr (0, [.ref (c + 1), .ref (c + 2), .int (nI bsz), .int (nI bop)]))) (hQ : Q (some (.int (nI bsz))) h) : Rn mprog (d + 1) n_Bars_size [.ref c] h Q := by
  refine Rn.in rfl rfl rfl ?_
  show WP _ _ _ _ 0 [.ref c] [] h
  refine wq_aload_n rfl rfl ?_
  refine wq_getfield (v := .int (nI bsz)) rfl ho rfl ?_
  refine wq_iret rfl trivial ?_
  exact hQ
theorem r_Bc_open {d c bsz bop : Nat} {h : mH} {Q : Option Value → mH → Prop} (ho : h[c]? = some (.inr (0, [.ref (c + 1), .ref (c + 2), .int (nI bsz), .int (nI bop)]))) (hQ : Q (some (.int (nI bop))) h) : Rn mprog (d + 1) n_Bars_open [.ref c] h Q := by
  refine Rn.in rfl rfl rfl ?_
  show WP _ _ _ _ 0 [.ref c] [] h
  refine wq_aload_n rfl rfl ?_
  refine wq_getfield (v := .int (nI bop)) rfl ho rfl ?_
  refine wq_iret rfl trivial ?_
  exact hQ
theorem r_Z_tell {d : Nat} {tl : Nat} {ta : Nat → Nat} {rn : Nat} {ra : Nat → Nat} {qn : Nat} {qa : Nat → Nat} {un : Nat} {σ : Nat → Nat} {us : Nat → Rw} {kn : Nat} {ρ : Nat → Nat} {ks : Nat → Rw} {pts : Nat} {edg : Nat} {nr : Nat → Nat} {rt : Nat → Nat} {sc : Nat → Nat → Nat} {wf : Nat → Nat} {ws : Nat → Nat} {bsz : Nat} {bop : Nat} {bbg : Nat → Nat} {ben : Nat → Nat} {ptx : Nat} {edx : Nat} {nrx : Nat → Nat} {rtx : Nat → Nat} {scx : Nat → Nat → Nat} {wfx : Nat → Nat} {wsx : Nat → Nat} {bsx : Nat} {box : Nat} {bbx : Nat → Nat} {bex : Nat → Nat} {suf : mH} {Q : Option Value → mH → Prop} (hV : RV (rn, ra)) (hbv : ∀ i, i < 40 → bbg i < 2 ^ 31 ∧ ben i < 2 ^ 31) (hQ : ∀ pts1 edg1 nr1 rt1 sc1 wf1 ws1 bsz1 bop1 bbg1 ben1, NI (rn, ra) pts1 edg1 nr1 rt1 sc1 bsz1 bop1 bbg1 ben1 → Q none (zW tl ta rn ra qn qa un σ us kn ρ ks pts1 edg1 nr1 rt1 sc1 wf1 ws1 bsz1 bop1 bbg1 ben1 ptx edx nrx rtx scx wfx wsx bsx box bbx bex suf)) : Rn mprog (d + 7) n_Z_tellAnew [.ref 0] (zW tl ta rn ra qn qa un σ us kn ρ ks pts edg nr rt sc wf ws bsz bop bbg ben ptx edx nrx rtx scx wfx wsx bsx box bbx bex suf) Q := by
  refine Rn.in rfl rfl rfl ?_
  show WP _ _ _ _ 0 [.ref 0] [] (zW tl ta rn ra qn qa un σ us kn ρ ks pts edg nr rt sc wf ws bsz bop bbg ben ptx edx nrx rtx scx wfx wsx bsx box bbx bex suf)
  refine wq_aload_n rfl rfl ?_
  refine wq_getfield (v := .ref 27) rfl zo_0 rfl ?_
  refine wq_aload_n rfl rfl ?_
  refine wq_getfield (v := .ref 3) rfl zo_0 rfl ?_
  refine wq_aload_n rfl rfl ?_
  refine wq_getfield (v := .ref 3) rfl zo_0 rfl ?_
  refine wq_virt (b := 3) (a := []) (rest := [.ref 3, .ref 27]) rfl rfl rfl rfl rfl zo_3 ?_
  refine r_Row_size (ra := fun _ => 0) zo_3 ?_
  show WP _ _ _ _ 15 [.ref 0] [.int (nI rn), .ref 3, .ref 27] (zW tl ta rn ra qn qa un σ us kn ρ ks pts edg nr rt sc wf ws bsz bop bbg ben ptx edx nrx rtx scx wfx wsx bsx box bbx bex suf)
  refine wq_virt (b := 27) (a := [.ref 3, .int (nI rn)]) (rest := []) rfl rfl rfl rfl rfl zo_27 ?_
  rw [zv_s]
  refine r_Sto_play (rn := rn) (ra := ra) (by rfl) hV.1 (Nat.le_refl _) hV.2.1 (fun _ _ _ _ _ _ _ _ _ _ _ => by rfl) (fun _ _ _ _ _ _ _ _ _ _ _ => by rfl) hbv (fun _ pts1 edg1 nr1 rt1 sc1 wf1 ws1 bsz1 bop1 bbg1 ben1 bs1 hE1 hB1 hO1 hv1 => ?_) (fun z => absurd hV.2.2 z)
  rw [← zv_s]
  show WP _ _ _ _ 18 [.ref 0] [.int (nI 1)] (zW tl ta rn ra qn qa un σ us kn ρ ks pts1 edg1 nr1 rt1 sc1 wf1 ws1 bsz1 bop1 bbg1 ben1 ptx edx nrx rtx scx wfx wsx bsx box bbx bex suf)
  refine wq_pop rfl rfl ?_
  refine wq_vret rfl rfl ?_
  exact hQ pts1 edg1 nr1 rt1 sc1 wf1 ws1 bsz1 bop1 bbg1 ben1 (NI_of rfl hE1 hB1 hO1 hv1)
theorem r_Z_layTrial {d : Nat} {tl : Nat} {ta : Nat → Nat} {rn : Nat} {ra : Nat → Nat} {qn : Nat} {qa : Nat → Nat} {un : Nat} {σ : Nat → Nat} {us : Nat → Rw} {kn : Nat} {ρ : Nat → Nat} {ks : Nat → Rw} {pts : Nat} {edg : Nat} {nr : Nat → Nat} {rt : Nat → Nat} {sc : Nat → Nat → Nat} {wf : Nat → Nat} {ws : Nat → Nat} {bsz : Nat} {bop : Nat} {bbg : Nat → Nat} {ben : Nat → Nat} {ptx : Nat} {edx : Nat} {nrx : Nat → Nat} {rtx : Nat → Nat} {scx : Nat → Nat → Nat} {wfx : Nat → Nat} {wsx : Nat → Nat} {bsx : Nat} {box : Nat} {bbx : Nat → Nat} {bex : Nat → Nat} {suf : mH} {Q : Option Value → mH → Prop} (hV : RV (qn, qa)) (hbv : ∀ i, i < 40 → bbg i < 2 ^ 31 ∧ ben i < 2 ^ 31) (hQ : ∀ pts1 edg1 nr1 rt1 sc1 wf1 ws1 bsz1 bop1 bbg1 ben1, NI (qn, qa) pts1 edg1 nr1 rt1 sc1 bsz1 bop1 bbg1 ben1 → Q none (zW tl ta qn (cpA qa ra qn) qn qa 0 σ us kn ρ ks pts1 edg1 nr1 rt1 sc1 wf1 ws1 bsz1 bop1 bbg1 ben1 ptx edx nrx rtx scx wfx wsx bsx box bbx bex suf)) : Rn mprog (d + 8) n_Z_layTrial [.ref 0] (zW tl ta rn ra qn qa un σ us kn ρ ks pts edg nr rt sc wf ws bsz bop bbg ben ptx edx nrx rtx scx wfx wsx bsx box bbx bex suf) Q := by
  have hq4 : qn ≤ 40 := hV.1
  have hE2 : EqR (qn, cpA qa ra qn) (qn, qa) := ⟨rfl, fun i hi => cpA_in hi⟩
  have hV2 := RV_congr hE2 hV
  refine Rn.in rfl rfl rfl ?_
  show WP _ _ _ _ 0 [.ref 0] [] (zW tl ta rn ra qn qa un σ us kn ρ ks pts edg nr rt sc wf ws bsz bop bbg ben ptx edx nrx rtx scx wfx wsx bsx box bbx bex suf)
  refine wq_aload_n rfl rfl ?_
  refine wq_getfield (v := .ref 3) rfl zo_0 rfl ?_
  refine wq_aload_n rfl rfl ?_
  refine wq_getfield (v := .ref 5) rfl zo_0 rfl ?_
  refine wq_virt (b := 3) (a := [.ref 5]) (rest := []) rfl rfl rfl rfl rfl zo_3 ?_
  rw [zv_r]
  refine r_Row_copy (m := qn) (g := qa) (by rfl) (by omega) (fun _ _ => by rfl) (fun _ _ => by rfl) ?_
  rw [← zv_r]
  show WP _ _ _ _ 11 [.ref 0] [] (zW tl ta qn (cpA qa ra qn) qn qa un σ us kn ρ ks pts edg nr rt sc wf ws bsz bop bbg ben ptx edx nrx rtx scx wfx wsx bsx box bbx bex suf)
  refine wq_aload_n rfl rfl ?_
  refine wq_getfield (v := .ref 7) rfl zo_0 rfl ?_
  refine wq_virt (b := 7) (a := []) (rest := []) rfl rfl rfl rfl rfl zo_7 ?_
  rw [zv_u]
  refine r_Shf_empty (by rfl) ?_
  rw [← zv_u]
  show WP _ _ _ _ 18 [.ref 0] [] (zW tl ta qn (cpA qa ra qn) qn qa 0 σ us kn ρ ks pts edg nr rt sc wf ws bsz bop bbg ben ptx edx nrx rtx scx wfx wsx bsx box bbx bex suf)
  refine wq_aload_n rfl rfl ?_
  refine wq_virt (b := 0) (a := []) (rest := []) rfl rfl rfl rfl rfl zo_0 ?_
  refine r_Z_tell hV2 hbv ?_
  intro pts1 edg1 nr1 rt1 sc1 wf1 ws1 bsz1 bop1 bbg1 ben1 hNI1
  show WP _ _ _ _ 22 [.ref 0] [] (zW tl ta qn (cpA qa ra qn) qn qa 0 σ us kn ρ ks pts1 edg1 nr1 rt1 sc1 wf1 ws1 bsz1 bop1 bbg1 ben1 ptx edx nrx rtx scx wfx wsx bsx box bbx bex suf)
  refine wq_vret rfl rfl ?_
  exact hQ pts1 edg1 nr1 rt1 sc1 wf1 ws1 bsz1 bop1 bbg1 ben1 (NI_congr hE2 hNI1)
theorem sw_cp {ra qa : Nat → Nat} {rn k : Nat} (h1 : 1 ≤ k) (h2 : k < rn) : EqR (rn, uN' (uN' (cpA ra qa rn) (k - 1) (cpA ra qa rn k)) k (cpA ra qa rn (k - 1))) (rn, swA ra k) := ⟨rfl, fun i hi => by
  have hi : i < rn := hi
  show uN' (uN' (cpA ra qa rn) (k - 1) (cpA ra qa rn k)) k (cpA ra qa rn (k - 1)) i = swA ra k i
  unfold swA
  rw [cpA_in h2, cpA_in (by omega)]
  by_cases e : i = k
  · rw [e, uN_s, uN_s]
  · rw [uN_n e, uN_n e]
    by_cases e2 : i = k - 1
    · rw [e2, uN_s, uN_s]
    · rw [uN_n e2, uN_n e2, cpA_in hi]⟩
theorem r_Z_try {d : Nat} {tl : Nat} {ta : Nat → Nat} {rn : Nat} {ra : Nat → Nat} {qn : Nat} {qa : Nat → Nat} {un : Nat} {σ : Nat → Nat} {us : Nat → Rw} {kn : Nat} {ρ : Nat → Nat} {ks : Nat → Rw} {pts : Nat} {edg : Nat} {nr : Nat → Nat} {rt : Nat → Nat} {sc : Nat → Nat → Nat} {wf : Nat → Nat} {ws : Nat → Nat} {bsz : Nat} {bop : Nat} {bbg : Nat → Nat} {ben : Nat → Nat} {ptx : Nat} {edx : Nat} {nrx : Nat → Nat} {rtx : Nat → Nat} {scx : Nat → Nat → Nat} {wfx : Nat → Nat} {wsx : Nat → Nat} {bsx : Nat} {box : Nat} {bbx : Nat → Nat} {bex : Nat → Nat} {suf : mH} {Q : Option Value → mH → Prop} {k : Nat} (hrn : rn ≤ 40) (hav : ∀ i, i < rn → AV (ra i)) (hk1 : 1 ≤ k) (hk2 : k < rn) (hbx : ∀ i, i < 40 → bbx i < 2 ^ 31 ∧ bex i < 2 ^ 31) (kt : okR (swA ra k) rn → ∀ qa' ptx1 edx1 nrx1 rtx1 scx1 wfx1 wsx1 bsx1 box1 bbx1 bex1, EqR (rn, qa') (rn, swA ra k) → NI (rn, swA ra k) ptx1 edx1 nrx1 rtx1 scx1 bsx1 box1 bbx1 bex1 → Q (some (.int (nI 1))) (zW tl ta rn ra rn qa' un σ us kn ρ ks pts edg nr rt sc wf ws bsz bop bbg ben ptx1 edx1 nrx1 rtx1 scx1 wfx1 wsx1 bsx1 box1 bbx1 bex1 suf)) (kfl : ¬ okR (swA ra k) rn → ∀ qa' ptx1 edx1 nrx1 rtx1 scx1 wfx1 wsx1 bsx1 box1 bbx1 bex1, (∀ i, i < 40 → bbx1 i < 2 ^ 31 ∧ bex1 i < 2 ^ 31) → Q (some (.int (nI 0))) (zW tl ta rn ra rn qa' un σ us kn ρ ks pts edg nr rt sc wf ws bsz bop bbg ben ptx1 edx1 nrx1 rtx1 scx1 wfx1 wsx1 bsx1 box1 bbx1 bex1 suf)) : Rn mprog (d + 7) n_Z_tryExchange [.ref 0, .int (nI k)] (zW tl ta rn ra qn qa un σ us kn ρ ks pts edg nr rt sc wf ws bsz bop bbg ben ptx edx nrx rtx scx wfx wsx bsx box bbx bex suf) Q := by
  refine Rn.in rfl rfl rfl ?_
  show WP _ _ _ _ 0 [.ref 0, .int (nI k)] [] (zW tl ta rn ra qn qa un σ us kn ρ ks pts edg nr rt sc wf ws bsz bop bbg ben ptx edx nrx rtx scx wfx wsx bsx box bbx bex suf)
  refine wq_aload_n rfl rfl ?_
  refine wq_getfield (v := .ref 5) rfl zo_0 rfl ?_
  refine wq_aload_n rfl rfl ?_
  refine wq_getfield (v := .ref 3) rfl zo_0 rfl ?_
  refine wq_virt (b := 5) (a := [.ref 3]) (rest := []) rfl rfl rfl rfl rfl zo_5 ?_
  rw [zv_q]
  refine r_Row_copy (m := rn) (g := ra) (by rfl) (by omega) (fun _ _ => by rfl) (fun _ _ => by rfl) ?_
  rw [← zv_q]
  show WP _ _ _ _ 11 [.ref 0, .int (nI k)] [] (zW tl ta rn ra rn (cpA ra qa rn) un σ us kn ρ ks pts edg nr rt sc wf ws bsz bop bbg ben ptx edx nrx rtx scx wfx wsx bsx box bbx bex suf)
  refine wq_aload_n rfl rfl ?_
  refine wq_getfield (v := .ref 5) rfl zo_0 rfl ?_
  refine wq_iload_n rfl rfl ?_
  refine wq_virt (b := 5) (a := [.int (nI k)]) (rest := []) rfl rfl rfl rfl rfl zo_5 ?_
  rw [zv_q]
  refine r_Row_swap (by rfl) (by omega) (by omega) (by omega) ?_
  rw [← zv_q]
  show WP _ _ _ _ 19 [.ref 0, .int (nI k)] [] (zW tl ta rn ra rn (uN' (uN' (cpA ra qa rn) (k - 1) ((cpA ra qa rn) k)) k ((cpA ra qa rn) (k - 1))) un σ us kn ρ ks pts edg nr rt sc wf ws bsz bop bbg ben ptx edx nrx rtx scx wfx wsx bsx box bbx bex suf)
  refine wq_aload_n rfl rfl ?_
  refine wq_getfield (v := .ref 38) rfl zo_0 rfl ?_
  refine wq_aload_n rfl rfl ?_
  refine wq_getfield (v := .ref 5) rfl zo_0 rfl ?_
  refine wq_aload_n rfl rfl ?_
  refine wq_getfield (v := .ref 5) rfl zo_0 rfl ?_
  refine wq_virt (b := 5) (a := []) (rest := [.ref 5, .ref 38]) rfl rfl rfl rfl rfl zo_5 ?_
  refine r_Row_size (ra := fun _ => 0) zo_5 ?_
  show WP _ _ _ _ 34 [.ref 0, .int (nI k)] [.int (nI rn), .ref 5, .ref 38] (zW tl ta rn ra rn (uN' (uN' (cpA ra qa rn) (k - 1) ((cpA ra qa rn) k)) k ((cpA ra qa rn) (k - 1))) un σ us kn ρ ks pts edg nr rt sc wf ws bsz bop bbg ben ptx edx nrx rtx scx wfx wsx bsx box bbx bex suf)
  refine wq_virt (b := 38) (a := [.ref 5, .int (nI rn)]) (rest := []) rfl rfl rfl rfl rfl zo_38 ?_
  have hE2 := sw_cp (ra := ra) (qa := qa) hk1 hk2
  have hav2 : ∀ i, i < rn → AV ((uN' (uN' (cpA ra qa rn) (k - 1) (cpA ra qa rn k)) k (cpA ra qa rn (k - 1))) i) := fun i hi => by have e := hE2.2 i hi; dsimp only at e; rw [e]; exact sw_AV hav hk2 i hi
  rw [zv_x]
  refine r_Sto_play (rn := rn) (ra := uN' (uN' (cpA ra qa rn) (k - 1) (cpA ra qa rn k)) k (cpA ra qa rn (k - 1))) (by rfl) hrn (Nat.le_refl _) hav2 (fun _ _ _ _ _ _ _ _ _ _ _ => by rfl) (fun _ _ _ _ _ _ _ _ _ _ _ => by rfl) hbx (fun hok ptx1 edx1 nrx1 rtx1 scx1 wfx1 wsx1 bsx1 box1 bbx1 bex1 bs1 hE1 hB1 hO1 hv1 => ?_) (fun hno ptx1 edx1 nrx1 rtx1 scx1 wfx1 wsx1 bsx1 box1 bbx1 bex1 hv1 => ?_)
  all_goals rw [← zv_x]
  · skip
    show WP _ _ _ _ 37 [.ref 0, .int (nI k)] [.int (nI 1)] (zW tl ta rn ra rn (uN' (uN' (cpA ra qa rn) (k - 1) ((cpA ra qa rn) k)) k ((cpA ra qa rn) (k - 1))) un σ us kn ρ ks pts edg nr rt sc wf ws bsz bop bbg ben ptx1 edx1 nrx1 rtx1 scx1 wfx1 wsx1 bsx1 box1 bbx1 bex1 suf)
    refine wq_iret rfl (by first | exact Or.inl rfl | exact Or.inr rfl) ?_
    exact kt ((okR_congr hE2.2).mp hok) _ ptx1 edx1 nrx1 rtx1 scx1 wfx1 wsx1 bsx1 box1 bbx1 bex1 hE2 (NI_congr hE2 (NI_of rfl hE1 hB1 hO1 hv1))
  · skip
    show WP _ _ _ _ 37 [.ref 0, .int (nI k)] [.int (nI 0)] (zW tl ta rn ra rn (uN' (uN' (cpA ra qa rn) (k - 1) ((cpA ra qa rn) k)) k ((cpA ra qa rn) (k - 1))) un σ us kn ρ ks pts edg nr rt sc wf ws bsz bop bbg ben ptx1 edx1 nrx1 rtx1 scx1 wfx1 wsx1 bsx1 box1 bbx1 bex1 suf)
    refine wq_iret rfl (by first | exact Or.inl rfl | exact Or.inr rfl) ?_
    exact kfl (fun z => hno ((okR_congr hE2.2).mpr z)) _ ptx1 edx1 nrx1 rtx1 scx1 wfx1 wsx1 bsx1 box1 bbx1 bex1 hv1
def NG (τ : TT) (pts edg : Nat) (nr : Nat → Nat) : Prop := pts = τ.1 ∧ edg = τ.2.1 ∧ ∀ p, p < 9 → nr p = τ.2.2.1 p
theorem tS_e {ac k : Nat} {τ : TT} : (ac >>> 8 = 2 → (tS ac k τ).2.1 = τ.2.1 + 1) ∧ (ac >>> 8 = 3 → (tS ac k τ).2.1 = τ.2.1 - 1) := by
  unfold tS
  refine ⟨fun e => ?_, fun e => ?_⟩
  · rw [if_neg (by omega), if_neg (by omega), if_pos e]; split <;> rfl
  · rw [if_neg (by omega), if_neg (by omega), if_neg (by omega)]; split <;> rfl
theorem r_Net_does {d b : Nat} {pre suf : mH} {pts edg : Nat} {nr : Nat → Nat} {Q : Option Value → mH → Prop} (hb : pre.length = b) {τ : TT} {k ac : Nat} (hT : TV τ k) (ha : AV ac) (hm : mayT τ ac = true) (hg : NG τ pts edg nr) (hQ : ∀ pts' edg' nr', NG (tS ac (k + 1) τ) pts' edg' nr' → Q none (nW b pre pts' edg' nr' suf)) : Rn mprog (d + 4) n_Net_change [.ref b, .int (nI ac)] (nW b pre pts edg nr suf) Q := by
  have hk := AV_k ha
  obtain ⟨g1, g2, g3⟩ := hg
  obtain ⟨a1, hA, hB, hab⟩ := ha
  have hnr : ∀ p, p < 9 → nr p < 512 := fun p hp => by rw [g3 p hp]; exact hT.1.2.1.1 p hp
  by_cases hκ : ac >>> 8 < 2
  · obtain ⟨t1, t2, t3⟩ := tS_g0 (k := k + 1) (τ := τ) hκ
    refine r_Net_chg0 hb a1 hA hB (by omega) (hQ _ _ _ ⟨?_, ?_, ?_⟩)
    · rw [t1, g1]
    · rw [t3, g2]
    · rw [t2]; exact g3
  · obtain ⟨t1, t2⟩ := tS_g2 (k := k + 1) (τ := τ) (by omega : 2 ≤ ac >>> 8)
    obtain ⟨e2, e3⟩ := tS_e (ac := ac) (k := k + 1) (τ := τ)
    unfold mayT at hm
    rcases (by omega : ac >>> 8 = 2 ∨ ac >>> 8 = 3) with e | e
    · rw [e] at hm
      unfold mayB at hm
      rw [if_neg (by decide), if_neg (by decide), if_pos rfl] at hm
      simp only [Bool.and_eq_true, Bool.not_eq_true'] at hm
      refine r_Net_chg2 hb a1 hA hB hnr (Or.inl e) (by rw [g3 _ hA]; exact hm.2) (hQ _ _ _ ⟨?_, ?_, ?_⟩)
      · rw [t1, g1]
      · rw [e2 e, g2]
      · rw [t2]; exact nrX_congr hA hB g3
    · rw [e] at hm
      unfold mayB at hm
      rw [if_neg (by decide), if_neg (by decide), if_neg (by decide)] at hm
      have hne : ac >>> 4 &&& 15 ≠ ac &&& 15 := fun z => by
        rw [← z, hT.1.2.1.2.2 _ hA] at hm
        exact absurd hm (by decide)
      have hoff := esum_off hT.1.2.1 hA hB hne hm
      have hE := hT.2.1
      refine r_Net_chg3 hb a1 hA hB hnr (Or.inr e) (by rw [g3 _ hA]; exact hm) (by omega) (hQ _ _ _ ⟨?_, ?_, ?_⟩)
      · rw [t1, g1]
      · rw [e3 e, g2]
      · rw [t2]; exact nrX_congr hA hB g3
theorem l_Z_read {d : Nat} {tl : Nat} {ta : Nat → Nat} {rn : Nat} {ra : Nat → Nat} {un : Nat} {σ : Nat → Nat} {us : Nat → Rw} {kn : Nat} {ρ : Nat → Nat} {ks : Nat → Rw} {pts : Nat} {edg : Nat} {nr : Nat → Nat} {rt : Nat → Nat} {sc : Nat → Nat → Nat} {wf : Nat → Nat} {ws : Nat → Nat} {bsz : Nat} {bop : Nat} {bbg : Nat → Nat} {ben : Nat → Nat} {rtx : Nat → Nat} {scx : Nat → Nat → Nat} {wfx : Nat → Nat} {wsx : Nat → Nat} {bsx : Nat} {box : Nat} {bbx : Nat → Nat} {bex : Nat → Nat} {suf : mH} {Q : Option Value → mH → Prop} (hl : tl ≤ 200) (hta : ∀ i, i < tl → ta i < 127) {qa0 : Nat → Nat} (hQ : ∀ ptx' edx' nrx', Q (some (.int (opI (rdg tl ta 41 0 0 qa0).1))) (zW tl ta rn ra ((rdg tl ta 41 0 0 qa0).2.1) ((rdg tl ta 41 0 0 qa0).2.2) un σ us kn ρ ks pts edg nr rt sc wf ws bsz bop bbg ben ptx' edx' nrx' rtx scx wfx wsx bsx box bbx bex suf)) : ∀ (t k ap : Nat) (qa : Nat → Nat) (ptx edx : Nat) (nrx : Nat → Nat) (v4 : Value), k + t = 41 → ap ≤ 300 → RV (k, qa) → NG (stR qa k) ptx edx nrx → rdg tl ta t k ap qa = rdg tl ta 41 0 0 qa0 → WP (Rn mprog (d + 4)) k_Z_readText (some .int) Q 23 [.ref 0, .ref 39, .int (nI ap), .int (nI k), v4] [] (zW tl ta rn ra k qa un σ us kn ρ ks pts edg nr rt sc wf ws bsz bop bbg ben ptx edx nrx rtx scx wfx wsx bsx box bbx bex suf) := by
  intro t
  induction t with
  | zero =>
    intro k ap qa ptx edx nrx v4 hkt hap3 hRV
    have := hRV.1
    dsimp only at this
    omega
  | succ t ih =>
    intro k ap qa ptx edx nrx v4 hkt hap3 hRV hNG hrd
    have hTV := TV_run k hRV.2.1 hRV.2.2
    have hk40 : k ≤ 40 := hRV.1
    have hpt : ptx < 512 := by rw [hNG.1]; exact hTV.1.1
    have hnr : ∀ p, p < 9 → nrx p < 512 := fun p hp => by rw [hNG.2.2 p hp]; exact hTV.1.2.1.1 p hp
    rcases Nat.lt_or_ge ap tl with hap | hap
    · skip
      refine wq_iload_n rfl rfl ?_
      refine wq_sipush (v := nI 200) rfl (by decide) ?_
      refine wn_ic_gt rfl (by omega) (by omega) (fun c27 => absurd c27 (by omega)) (fun c27 => ?_)
      refine wq_iload_n rfl rfl ?_
      refine wq_aload_n rfl rfl ?_
      refine wq_getfield (v := .ref 1) rfl zo_0 rfl ?_
      refine wq_virt (b := 1) (a := []) (rest := [.int (nI ap)]) rfl rfl rfl rfl rfl zo_1 ?_
      rw [zv_t]
      refine r_Txt_length (by rfl) ?_
      rw [← zv_t]
      show WP _ _ _ _ 38 [.ref 0, .ref 39, .int (nI ap), .int (nI k), v4] [.int (nI tl), .int (nI ap)] (zW tl ta rn ra k qa un σ us kn ρ ks pts edg nr rt sc wf ws bsz bop bbg ben ptx edx nrx rtx scx wfx wsx bsx box bbx bex suf)
      refine wn_ic_ge rfl (by omega) (by omega) (fun c38 => absurd c38 (by omega)) (fun c38 => ?_)
      refine wq_aload_n rfl rfl ?_
      refine wq_getfield (v := .ref 1) rfl zo_0 rfl ?_
      refine wq_iload_n rfl rfl ?_
      refine wq_virt (b := 1) (a := [.int (nI ap)]) (rest := []) rfl rfl rfl rfl rfl zo_1 ?_
      rw [zv_t]
      refine r_Txt_actAt (by rfl) (by omega) hl hta (fun ac hit => ?_) (fun hit => ?_)
      all_goals rw [← zv_t]
      · skip
        show WP _ _ _ _ 49 [.ref 0, .ref 39, .int (nI ap), .int (nI k), v4] [.int (nI ac)] (zW tl ta rn ra k qa un σ us kn ρ ks pts edg nr rt sc wf ws bsz bop bbg ben ptx edx nrx rtx scx wfx wsx bsx box bbx bex suf)
        refine wq_istore (lv' := [.ref 0, .ref 39, .int (nI ap), .int (nI k), .int (nI ac)]) rfl rfl rfl ?_
        refine wq_aload_n rfl rfl ?_
        refine wq_getfield (v := .ref 5) rfl zo_0 rfl ?_
        refine wq_virt (b := 5) (a := []) (rest := []) rfl rfl rfl rfl rfl zo_5 ?_
        refine r_Row_size (ra := fun _ => 0) zo_5 ?_
        show WP _ _ _ _ 58 [.ref 0, .ref 39, .int (nI ap), .int (nI k), .int (nI ac)] [.int (nI k)] (zW tl ta rn ra k qa un σ us kn ρ ks pts edg nr rt sc wf ws bsz bop bbg ben ptx edx nrx rtx scx wfx wsx bsx box bbx bex suf)
        refine wq_bipush (v := nI 40) rfl (by decide) ?_
        refine wn_ic_ge rfl (by omega) (by omega) (fun c60 => ?_) (fun c60 => ?_)
        · skip
          refine wq_iload_n rfl rfl ?_
          refine wq_iret rfl trivial ?_
          have hre := rdg_no (t := t) (k := k) (ra := qa) hap hit (fun z => by omega)
          rw [hrd] at hre
          have q := hQ ptx edx nrx
          rw [hre] at q
          exact q
        · skip
          refine wq_aload_n rfl rfl ?_
          refine wq_iload rfl rfl ?_
          refine wq_virt (b := 39) (a := [.int (nI ac)]) (rest := []) rfl rfl rfl rfl rfl zo_39 ?_
          obtain ⟨hav, hk8, -⟩ := itA_some hit
          have hmc : mayB ptx nrx (ac >>> 8) (ac >>> 4 &&& 15) (ac &&& 15) = mayT (stR qa k) ac := by unfold mayT mayB; rw [hNG.1, hNG.2.2 _ hav.2.1]
          rw [zv_nx]
          refine r_Net_canDo (by rfl) hav.1 hav.2.1 hav.2.2.1 hpt hnr (fun c66 => ?_) (fun c66 => ?_)
          all_goals rw [← zv_nx]
          · skip
            show WP _ _ _ _ 69 [.ref 0, .ref 39, .int (nI ap), .int (nI k), .int (nI ac)] [.int (nI 1)] (zW tl ta rn ra k qa un σ us kn ρ ks pts edg nr rt sc wf ws bsz bop bbg ben ptx edx nrx rtx scx wfx wsx bsx box bbx bex suf)
            refine wq_if_ne rfl (fun _ => ?_) (fun c => absurd c (by decide))
            refine wq_aload_n rfl rfl ?_
            refine wq_iload rfl rfl ?_
            refine wq_virt (b := 39) (a := [.int (nI ac)]) (rest := []) rfl rfl rfl rfl rfl zo_39 ?_
            rw [hmc] at c66
            rw [zv_nx]
            refine r_Net_does (by rfl) hTV hav c66 hNG ?_
            intro ptx' edx' nrx' hNG'
            rw [← zv_nx]
            show WP _ _ _ _ 80 [.ref 0, .ref 39, .int (nI ap), .int (nI k), .int (nI ac)] [] (zW tl ta rn ra k qa un σ us kn ρ ks pts edg nr rt sc wf ws bsz bop bbg ben ptx' edx' nrx' rtx scx wfx wsx bsx box bbx bex suf)
            refine wq_aload_n rfl rfl ?_
            refine wq_getfield (v := .ref 5) rfl zo_0 rfl ?_
            refine wq_iload rfl rfl ?_
            refine wq_virt (b := 5) (a := [.int (nI ac)]) (rest := []) rfl rfl rfl rfl rfl zo_5 ?_
            rw [zv_q]
            refine r_Row_add (by rfl) (by omega) ?_
            rw [← zv_q]
            show WP _ _ _ _ 89 [.ref 0, .ref 39, .int (nI ap), .int (nI k), .int (nI ac)] [] (zW tl ta rn ra (k + 1) (uN' qa k ac) un σ us kn ρ ks pts edg nr rt sc wf ws bsz bop bbg ben ptx' edx' nrx' rtx scx wfx wsx bsx box bbx bex suf)
            refine wq_iload_n rfl rfl ?_
            refine wq_iload rfl rfl ?_
            refine wq_stat (a := [.int (nI ac)]) (rest := [.int (nI ap)]) rfl rfl rfl rfl rfl ?_
            refine r_Z_kindOf (by have := hav.1; omega) ?_
            show WP _ _ _ _ 95 [.ref 0, .ref 39, .int (nI ap), .int (nI k), .int (nI ac)] [.int (nI (ac >>> 8)), .int (nI ap)] (zW tl ta rn ra (k + 1) (uN' qa k ac) un σ us kn ρ ks pts edg nr rt sc wf ws bsz bop bbg ben ptx' edx' nrx' rtx scx wfx wsx bsx box bbx bex suf)
            refine wq_stat (a := [.int (nI (ac >>> 8))]) (rest := [.int (nI ap)]) rfl rfl rfl rfl rfl ?_
            refine r_Z_ilen (AV_k hav) ?_
            show WP _ _ _ _ 98 [.ref 0, .ref 39, .int (nI ap), .int (nI k), .int (nI ac)] [.int (nI (ilN (ac >>> 8))), .int (nI ap)] (zW tl ta rn ra (k + 1) (uN' qa k ac) un σ us kn ρ ks pts edg nr rt sc wf ws bsz bop bbg ben ptx' edx' nrx' rtx scx wfx wsx bsx box bbx bex suf)
            refine wn_iadd rfl ?_
            refine wq_istore_n (lv' := [.ref 0, .ref 39, .int (nI (ap + (ilN (ac >>> 8)))), .int (nI k), .int (nI ac)]) rfl rfl rfl ?_
            refine wn_inc (lv' := [.ref 0, .ref 39, .int (nI (ap + (ilN (ac >>> 8)))), .int (nI (k + 1)), .int (nI ac)]) rfl rfl rfl ?_
            refine wq_goto rfl ?_
            have hge := rdg_go (t := t) (ra := qa) hap hit ⟨by omega, c66⟩
            rw [hrd] at hge
            have hst : stR (uN' qa k ac) (k + 1) = tS ac (k + 1) (stR qa k) := by
              show tS (uN' qa k ac k) (k + 1) (stR (uN' qa k ac) k) = _
              rw [uN_s, stR_congr (rb := qa) k (fun j hj => uN_n (by omega))]
            refine ih (k + 1) _ (uN' qa k ac) _ _ _ _ (by omega) (by have : ilN (ac >>> 8) ≤ 4 := by { unfold ilN; split <;> omega }; omega) (RV_add hRV (by omega) hav c66) (by rw [hst]; exact hNG') hge.symm
          · skip
            show WP _ _ _ _ 69 [.ref 0, .ref 39, .int (nI ap), .int (nI k), .int (nI ac)] [.int (nI 0)] (zW tl ta rn ra k qa un σ us kn ρ ks pts edg nr rt sc wf ws bsz bop bbg ben ptx edx nrx rtx scx wfx wsx bsx box bbx bex suf)
            refine wq_if_ne rfl (fun c => absurd c (by decide)) (fun _ => ?_)
            refine wq_iload_n rfl rfl ?_
            refine wq_iret rfl trivial ?_
            have hre := rdg_no (t := t) (k := k) (ra := qa) hap hit (fun z => by rw [← hmc, c66] at z; exact absurd z.2 (by decide))
            rw [hrd] at hre
            have q := hQ ptx edx nrx
            rw [hre] at q
            exact q
      · skip
        show WP _ _ _ _ 49 [.ref 0, .ref 39, .int (nI ap), .int (nI k), v4] [.int ((-1))] (zW tl ta rn ra k qa un σ us kn ρ ks pts edg nr rt sc wf ws bsz bop bbg ben ptx edx nrx rtx scx wfx wsx bsx box bbx bex suf)
        refine wq_istore (lv' := [.ref 0, .ref 39, .int (nI ap), .int (nI k), .int ((-1))]) rfl rfl rfl ?_
        refine wq_aload_n rfl rfl ?_
        refine wq_getfield (v := .ref 5) rfl zo_0 rfl ?_
        refine wq_virt (b := 5) (a := []) (rest := []) rfl rfl rfl rfl rfl zo_5 ?_
        refine r_Row_size (ra := fun _ => 0) zo_5 ?_
        show WP _ _ _ _ 58 [.ref 0, .ref 39, .int (nI ap), .int (nI k), .int ((-1))] [.int (nI k)] (zW tl ta rn ra k qa un σ us kn ρ ks pts edg nr rt sc wf ws bsz bop bbg ben ptx edx nrx rtx scx wfx wsx bsx box bbx bex suf)
        refine wq_bipush (v := nI 40) rfl (by decide) ?_
        refine wn_ic_ge rfl (by omega) (by omega) (fun c60 => ?_) (fun c60 => ?_)
        · skip
          refine wq_iload_n rfl rfl ?_
          refine wq_iret rfl trivial ?_
          have hre := rdg_bad (t := t) (k := k) (ra := qa) hap hit
          rw [hrd] at hre
          have q := hQ ptx edx nrx
          rw [hre] at q
          exact q
        · skip
          refine wq_aload_n rfl rfl ?_
          refine wq_iload rfl rfl ?_
          refine wq_virt (b := 39) (a := [.int ((-1))]) (rest := []) rfl rfl rfl rfl rfl zo_39 ?_
          rw [zv_nx]
          refine r_Net_canDo_no (by rfl) ?_
          rw [← zv_nx]
          show WP _ _ _ _ 69 [.ref 0, .ref 39, .int (nI ap), .int (nI k), .int ((-1))] [.int (nI 0)] (zW tl ta rn ra k qa un σ us kn ρ ks pts edg nr rt sc wf ws bsz bop bbg ben ptx edx nrx rtx scx wfx wsx bsx box bbx bex suf)
          refine wq_if_ne rfl (fun c => absurd c (by decide)) (fun _ => ?_)
          refine wq_iload_n rfl rfl ?_
          refine wq_iret rfl trivial ?_
          have hre := rdg_bad (t := t) (k := k) (ra := qa) hap hit
          rw [hrd] at hre
          have q := hQ ptx edx nrx
          rw [hre] at q
          exact q
    · skip
      refine wq_iload_n rfl rfl ?_
      refine wq_sipush (v := nI 200) rfl (by decide) ?_
      refine wn_ic_gt rfl (by omega) (by omega) (fun c27 => absurd c27 (by omega)) (fun c27 => ?_)
      refine wq_iload_n rfl rfl ?_
      refine wq_aload_n rfl rfl ?_
      refine wq_getfield (v := .ref 1) rfl zo_0 rfl ?_
      refine wq_virt (b := 1) (a := []) (rest := [.int (nI ap)]) rfl rfl rfl rfl rfl zo_1 ?_
      rw [zv_t]
      refine r_Txt_length (by rfl) ?_
      rw [← zv_t]
      show WP _ _ _ _ 38 [.ref 0, .ref 39, .int (nI ap), .int (nI k), v4] [.int (nI tl), .int (nI ap)] (zW tl ta rn ra k qa un σ us kn ρ ks pts edg nr rt sc wf ws bsz bop bbg ben ptx edx nrx rtx scx wfx wsx bsx box bbx bex suf)
      refine wn_ic_ge rfl (by omega) (by omega) (fun c38 => ?_) (fun c38 => absurd c38 (by omega))
      refine wq_bipush (v := (-4)) rfl (by decide) ?_
      refine wq_iret rfl trivial ?_
      have hre := rdg_end (ta := ta) (t := t) (k := k) (ra := qa) hap
      rw [hrd] at hre
      have q := hQ ptx edx nrx
      rw [hre] at q
      exact q
theorem r_Z_read {d : Nat} {tl : Nat} {ta : Nat → Nat} {rn : Nat} {ra : Nat → Nat} {qn : Nat} {qa : Nat → Nat} {un : Nat} {σ : Nat → Nat} {us : Nat → Rw} {kn : Nat} {ρ : Nat → Nat} {ks : Nat → Rw} {pts : Nat} {edg : Nat} {nr : Nat → Nat} {rt : Nat → Nat} {sc : Nat → Nat → Nat} {wf : Nat → Nat} {ws : Nat → Nat} {bsz : Nat} {bop : Nat} {bbg : Nat → Nat} {ben : Nat → Nat} {ptx : Nat} {edx : Nat} {nrx : Nat → Nat} {rtx : Nat → Nat} {scx : Nat → Nat → Nat} {wfx : Nat → Nat} {wsx : Nat → Nat} {bsx : Nat} {box : Nat} {bbx : Nat → Nat} {bex : Nat → Nat} {suf : mH} {Q : Option Value → mH → Prop} (hl : tl ≤ 200) (hta : ∀ i, i < tl → ta i < 127) (hQ : ∀ ptx' edx' nrx', Q (some (.int (opI (rdg tl ta 41 0 0 qa).1))) (zW tl ta rn ra ((rdg tl ta 41 0 0 qa).2.1) ((rdg tl ta 41 0 0 qa).2.2) un σ us kn ρ ks pts edg nr rt sc wf ws bsz bop bbg ben ptx' edx' nrx' rtx scx wfx wsx bsx box bbx bex suf)) : Rn mprog (d + 5) n_Z_readText [.ref 0] (zW tl ta rn ra qn qa un σ us kn ρ ks pts edg nr rt sc wf ws bsz bop bbg ben ptx edx nrx rtx scx wfx wsx bsx box bbx bex suf) Q := by
  refine Rn.in rfl rfl rfl ?_
  show WP _ _ _ _ 0 [.ref 0, .long 0, .long 0, .long 0, .long 0] [] (zW tl ta rn ra qn qa un σ us kn ρ ks pts edg nr rt sc wf ws bsz bop bbg ben ptx edx nrx rtx scx wfx wsx bsx box bbx bex suf)
  refine wq_aload_n rfl rfl ?_
  refine wq_getfield (v := .ref 38) rfl zo_0 rfl ?_
  refine wq_getfield (v := .ref 39) rfl zo_38 rfl ?_
  refine wq_astore_n (lv' := [.ref 0, .ref 39, .long 0, .long 0, .long 0]) rfl rfl rfl ?_
  refine wq_aload_n rfl rfl ?_
  refine wq_virt (b := 39) (a := []) (rest := []) rfl rfl rfl rfl rfl zo_39 ?_
  rw [zv_nx]
  refine r_Net_empty (by rfl) ?_
  rw [← zv_nx]
  show WP _ _ _ _ 12 [.ref 0, .ref 39, .long 0, .long 0, .long 0] [] (zW tl ta rn ra qn qa un σ us kn ρ ks pts edg nr rt sc wf ws bsz bop bbg ben 0 0 (fz 0 nrx 9) rtx scx wfx wsx bsx box bbx bex suf)
  refine wq_aload_n rfl rfl ?_
  refine wq_getfield (v := .ref 5) rfl zo_0 rfl ?_
  refine wq_virt (b := 5) (a := []) (rest := []) rfl rfl rfl rfl rfl zo_5 ?_
  rw [zv_q]
  refine r_Row_empty (by rfl) ?_
  rw [← zv_q]
  show WP _ _ _ _ 19 [.ref 0, .ref 39, .long 0, .long 0, .long 0] [] (zW tl ta rn ra 0 qa un σ us kn ρ ks pts edg nr rt sc wf ws bsz bop bbg ben 0 0 (fz 0 nrx 9) rtx scx wfx wsx bsx box bbx bex suf)
  refine wq_iconst (v := nI 0) rfl (by decide) ?_
  refine wq_istore_n (lv' := [.ref 0, .ref 39, .int (nI 0), .long 0, .long 0]) rfl rfl rfl ?_
  refine wq_iconst (v := nI 0) rfl (by decide) ?_
  refine wq_istore_n (lv' := [.ref 0, .ref 39, .int (nI 0), .int (nI 0), .long 0]) rfl rfl rfl ?_
  refine l_Z_read hl hta hQ 41 0 0 qa _ _ _ _ rfl (by omega) ⟨Nat.zero_le 40, fun i hi => absurd hi (Nat.not_lt_zero i), fun i hi => absurd hi (Nat.not_lt_zero i)⟩ ⟨rfl, rfl, fun p hp => if_pos hp⟩ rfl
