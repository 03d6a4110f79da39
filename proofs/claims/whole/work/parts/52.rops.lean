/-! the reference: calls without loops of their own -/
theorem r_R_runs {d b : Nat} {pre : mH} {tn : Nat} {lt : Nat} {un : Nat} {kp : Nat} {ap : Nat} {wb : Nat} {tx : Nat → Nat} {sq : Nat → Nat} {pa : Nat → Nat} {ke : Nat → Nat} {to : Nat → Nat} {wg : Nat → Nat} {we : Nat → Nat} {th : Nat} {pcs : Nat} {brs : Nat} {be : Nat → Nat} {po : Nat → Nat} {ro : Nat → Nat} {kf : Nat → Nat → Nat} {bg : Nat → Nat} {en : Nat → Nat} {Q : Option Value → mH → Prop} (hb : pre.length = b) (hSB : SB ro kf) {rn : Nat} {ra : Nat → Nat} (hV : RV (rn, ra)) (hRR : RR sq (rn, ra)) {k : Nat} (hk : k ≤ rn) (hQ : ∀ th' pcs' brs' be' po' ro' kf' bg' en', Sim (stR ra k) k th' pcs' brs' be' po' ro' kf' bg' en' → SB ro' kf' → Q (some (.int (nI 1))) (mR b pre tn lt un kp ap wb tx sq pa ke to wg we th' pcs' brs' be' po' ro' kf' bg' en')) : Rn mprog (d + 5) n_M_runs [.ref b, .int (nI k)] (mR b pre tn lt un kp ap wb tx sq pa ke to wg we th pcs brs be po ro kf bg en) Q := by
  have hrn : rn ≤ 40 := hV.1
  refine r_S_runs hb hSB.1 hSB.2 (ra := ra) (by omega) (fun i hi => hV.2.1 i (by show i < rn; omega)) (fun i hi => hRR.2 i (by show i < rn; omega)) (fun _ th' pcs' brs' be' po' ro' kf' bg' en' hS => hQ th' pcs' brs' be' po' ro' kf' bg' en' hS ⟨hS.2.2.2.2.2.2.2.1, hS.2.2.2.2.2.2.2.2⟩) (fun z => absurd (okR_le hV.2.2 hk) z)
theorem r_R_all {d b : Nat} {pre : mH} {tn : Nat} {lt : Nat} {un : Nat} {kp : Nat} {ap : Nat} {wb : Nat} {tx : Nat → Nat} {sq : Nat → Nat} {pa : Nat → Nat} {ke : Nat → Nat} {to : Nat → Nat} {wg : Nat → Nat} {we : Nat → Nat} {th : Nat} {pcs : Nat} {brs : Nat} {be : Nat → Nat} {po : Nat → Nat} {ro : Nat → Nat} {kf : Nat → Nat → Nat} {bg : Nat → Nat} {en : Nat → Nat} {Q : Option Value → mH → Prop} (hb : pre.length = b) (hSB : SB ro kf) {rn : Nat} {ra : Nat → Nat} (hrn : rn ≤ 40) (hav : ∀ i, i < rn → AV (ra i)) (hRR : RR sq (rn, ra)) (kt : okR ra rn → ∀ th' pcs' brs' be' po' ro' kf' bg' en', BL brs' bg' en' (bsR ra rn) → SB ro' kf' → Q (some (.int (nI 1))) (mR b pre tn lt un kp ap wb tx sq pa ke to wg we th' pcs' brs' be' po' ro' kf' bg' en')) (kfl : ¬ okR ra rn → ∀ th' pcs' brs' be' po' ro' kf' bg' en', SB ro' kf' → Q (some (.int (nI 0))) (mR b pre tn lt un kp ap wb tx sq pa ke to wg we th' pcs' brs' be' po' ro' kf' bg' en')) : Rn mprog (d + 6) n_M_runsAll [.ref b] (mR b pre tn lt un kp ap wb tx sq pa ke to wg we th pcs brs be po ro kf bg en) Q := by
  have h0 : sq 0 = rn := hRR.1
  refine r_S_runsAll hb hSB.1 hSB.2 (ra := ra) (show sq 0 ≤ 40 by omega) (fun i hi => hav i (by have : i < sq 0 := hi; omega)) (fun i hi => hRR.2 i (by have : i < sq 0 := hi; show i < rn; omega)) (fun z th' pcs' brs' be' po' ro' kf' bg' en' hB h1 h2 => ?_) (fun z th' pcs' brs' be' po' ro' kf' bg' en' h1 h2 => ?_)
  · have z : okR ra (sq 0) := z
    have hB : BL brs' bg' en' (bsR ra (sq 0)) := hB
    rw [h0] at z hB
    exact kt z th' pcs' brs' be' po' ro' kf' bg' en' hB ⟨h1, h2⟩
  · have z : ¬ okR ra (sq 0) := z
    rw [h0] at z
    exact kfl z th' pcs' brs' be' po' ro' kf' bg' en' ⟨h1, h2⟩
theorem low_lab {pts pcs p q : Nat} {nr po : Nat → Nat} (g : Gr nr) (hL : Lab pts nr po pcs) (hsub : ∀ t, cn nr p t → pts.testBit t = true) (hp : p < 9) (hpp : pts.testBit p = true) (hq : q < 9) (hqp : pts.testBit q = true) (he : po q = po p) (hm : ∀ j, j < q → ¬ (pts.testBit j = true ∧ po j = po p)) : q = low9 (pOf nr p) := by
  have hR := IsR_ex g hp
  rw [IsR_pOf hR] at hR
  have h0 : pOf nr p ≠ 0 := fun z => by
    have := hR.2.1
    rw [z, Nat.zero_testBit] at this
    exact absurd this (by decide)
  obtain ⟨l1, l2, l3⟩ := low9_ok ⟨pOf nr p, hR.1⟩ h0
  have l1 : (pOf nr p).testBit (low9 (pOf nr p)) = true := l1
  have l2 : low9 (pOf nr p) < 9 := l2
  have hqb : (pOf nr p).testBit q = true := (pOf_bit g hp).mpr ((hL.2.2.2.2 p q hp hq hpp hqp).mp he.symm)
  rcases Nat.lt_trichotomy q (low9 (pOf nr p)) with z | z | z
  · have := l3 ⟨q, hq⟩ z
    have this : (pOf nr p).testBit q = false := this
    rw [hqb] at this
    exact absurd this (by decide)
  · exact z
  · have hc := (pOf_bit g hp).mp l1
    have hpl := hsub _ hc
    exact absurd ⟨hpl, ((hL.2.2.2.2 p _ hp l2 hpp hpl).mpr hc).symm⟩ (hm _ z)
theorem cn_pts {τ : TT} {k p t : Nat} (h : TV τ k) (hp : p < 9) (hpp : τ.1.testBit p = true) (hc : cn τ.2.2.1 p t) : τ.1.testBit t = true :=
  hc τ.1 hpp (fun x hx _ y hy => h.1.2.2.1 y x (Gr_lt h.1.2.1 hx hy) (h.1.2.1.2.1 x y hx (Gr_lt h.1.2.1 hx hy) hy))
theorem RI_wr {A : AS} {tx sq pa ke : Nat → Nat} {x : Nat} (h : RI A tx sq pa ke) (hl : A.1 < 200) (hx : x < 127) : RI (A.1 + 1, uN' A.2.1 A.1 x, A.2.2) (uN' tx A.1 x) sq pa ke := by
  refine ⟨hl, fun i hi => ?_, h.2.2⟩
  have hi : i < A.1 + 1 := hi
  show uN' tx A.1 x i = uN' A.2.1 A.1 x i ∧ uN' A.2.1 A.1 x i < 127
  by_cases e : i = A.1
  · rw [e, uN_s, uN_s]; exact ⟨rfl, hx⟩
  · rw [uN_n e, uN_n e]; exact h.2.1 i (by omega)
theorem R_write {d b : Nat} {pre : mH} {A : AS} {h : mH} {Q : Option Value → mH → Prop} (hb : pre.length = b) (hR : RIA b pre A h) {x : Nat} (hx0 : x < 2 ^ 31) (hQ : ∀ h', RIA b pre (f_write A x).2 h' → Q (some (.int (f_write A x).1)) h') : Rn mprog (d + 7) n_M_write [.ref b, .int (nI x)] h Q := by
  obtain ⟨tl, ta, ⟨rn, ra⟩, un, ua, kn, ka⟩ := A
  obtain ⟨tn, ap, wb, tx, sq, pa, ke, to, wg, we, th, pcs, brs, be, po, ro, kf, bg, en, rfl, hI, hSB⟩ := hR
  have hI0 := hI
  obtain ⟨hl, htx, hV, hRR, hu, hU, hk, hK⟩ := hI
  dsimp only at hl htx hV hRR hu hU hk hK
  have hs0 : sq 0 = rn := hRR.1
  have hrn : rn ≤ 40 := hV.1
  refine Rn.in rfl rfl rfl ?_
  show WP _ _ _ _ 0 [.ref b, .int (nI x)] [] (mR b pre tn tl un kn ap wb tx sq pa ke to wg we th pcs brs be po ro kf bg en)
  refine wq_aload_n rfl rfl ?_
  refine wq_iconst (v := nI 0) rfl (by decide) ?_
  refine wq_putfield (h' := mR b pre 0 tl un kn ap wb tx sq pa ke to wg we th pcs brs be po ro kf bg en) rfl (mS_o hb) rfl (mS_s0 hb) ?_
  refine wq_iload_n rfl rfl ?_
  refine wq_bipush (v := nI 32) rfl (by decide) ?_
  refine wq_bipush (v := nI 126) rfl (by decide) ?_
  refine wq_stat (a := [.int (nI x), .int (nI 32), .int (nI 126)]) (rest := []) rfl rfl rfl rfl rfl ?_
  refine r_M_inN (by omega) (by omega) (by omega) (fun c10 => ?_) (fun c10 => ?_)
  · skip
    show WP _ _ _ _ 13 [.ref b, .int (nI x)] [.int (nI 1)] (mR b pre 0 tl un kn ap wb tx sq pa ke to wg we th pcs brs be po ro kf bg en)
    refine wq_if_ne rfl (fun _ => ?_) (fun c => absurd c (by decide))
    refine wq_aload_n rfl rfl ?_
    refine wq_getfield (v := .int (nI tl)) rfl (mS_o hb) rfl ?_
    refine wq_sipush (v := nI 200) rfl (by decide) ?_
    refine wn_ic_ne rfl (by omega) (by omega) (fun c25 => ?_) (fun c25 => ?_)
    · skip
      refine wq_aload_n rfl rfl ?_
      refine wq_getfield (v := .ref (b + 1)) rfl (mS_o hb) rfl ?_
      refine wq_aload_n rfl rfl ?_
      refine wq_getfield (v := .int (nI tl)) rfl (mS_o hb) rfl ?_
      refine wq_iload_n rfl rfl ?_
      refine wn_i2b rfl (by omega) ?_
      refine wn_bastore (g := tx) (h' := mR b pre 0 tl un kn ap wb (uN' tx tl x) sq pa ke to wg we th pcs brs be po ro kf bg en) rfl (mS_a1 hb) (by omega) (by decide) (by omega) (mS_t1 hb) ?_
      refine wq_aload_n rfl rfl ?_
      refine wq_dup rfl rfl ?_
      refine wq_getfield (v := .int (nI tl)) rfl (mS_o hb) rfl ?_
      refine wq_iconst (v := nI 1) rfl (by decide) ?_
      refine wn_iadd rfl ?_
      refine wq_putfield (h' := mR b pre 0 (tl + 1) un kn ap wb (uN' tx tl x) sq pa ke to wg we th pcs brs be po ro kf bg en) rfl (mS_o hb) rfl (mS_s2 hb) ?_
      refine wq_aload_n rfl rfl ?_
      refine wq_getfield (v := .int (nI (tl + 1))) rfl (mS_o hb) rfl ?_
      refine wq_iret rfl trivial ?_
      exact fin_ (A' := (tl + 1, uN' ta tl x, (rn, ra), un, ua, kn, ka)) hQ (by unfold f_write; (try dsimp only); (repeat first | rw [if_pos (by omega)] | rw [if_neg (by omega)]); try rfl) ⟨_, _, _, _, _, _, _, _, _, _, _, _, _, _, _, _, _, _, _, rfl, (RI_wr hI0 (by omega) (by omega)), hSB⟩
    · skip
      refine wq_bipush (v := (-3)) rfl (by decide) ?_
      refine wq_iret rfl trivial ?_
      exact fin_ (A' := (tl, ta, (rn, ra), un, ua, kn, ka)) hQ (by unfold f_write; (try dsimp only); (repeat first | rw [if_pos (by omega)] | rw [if_neg (by omega)]); try rfl) ⟨_, _, _, _, _, _, _, _, _, _, _, _, _, _, _, _, _, _, _, rfl, hI0, hSB⟩
  · skip
    show WP _ _ _ _ 13 [.ref b, .int (nI x)] [.int (nI 0)] (mR b pre 0 tl un kn ap wb tx sq pa ke to wg we th pcs brs be po ro kf bg en)
    refine wq_if_ne rfl (fun c => absurd c (by decide)) (fun _ => ?_)
    refine wq_iconst (v := (-1)) rfl (by decide) ?_
    refine wq_iret rfl trivial ?_
    exact fin_ (A' := (tl, ta, (rn, ra), un, ua, kn, ka)) hQ (by unfold f_write; (try dsimp only); (repeat first | rw [if_pos (by omega)] | rw [if_neg (by omega)]); try rfl) ⟨_, _, _, _, _, _, _, _, _, _, _, _, _, _, _, _, _, _, _, rfl, hI0, hSB⟩
theorem R_write_neg {d b : Nat} {pre : mH} {A : AS} {h : mH} {Q : Option Value → mH → Prop} (hb : pre.length = b) (hR : RIA b pre A h) {v1 : Int32} (hneg : v1 < 0) (hQ : ∀ h', RIA b pre A h' → Q (some (.int (-1))) h') : Rn mprog (d + 7) n_M_write [.ref b, .int v1] h Q := by
  obtain ⟨tl, ta, ⟨rn, ra⟩, un, ua, kn, ka⟩ := A
  obtain ⟨tn, ap, wb, tx, sq, pa, ke, to, wg, we, th, pcs, brs, be, po, ro, kf, bg, en, rfl, hI, hSB⟩ := hR
  have hI0 := hI
  obtain ⟨hl, htx, hV, hRR, hu, hU, hk, hK⟩ := hI
  dsimp only at hl htx hV hRR hu hU hk hK
  have hs0 : sq 0 = rn := hRR.1
  have hrn : rn ≤ 40 := hV.1
  refine Rn.in rfl rfl rfl ?_
  show WP _ _ _ _ 0 [.ref b, .int v1] [] (mR b pre tn tl un kn ap wb tx sq pa ke to wg we th pcs brs be po ro kf bg en)
  refine wq_aload_n rfl rfl ?_
  refine wq_iconst (v := nI 0) rfl (by decide) ?_
  refine wq_putfield (h' := mR b pre 0 tl un kn ap wb tx sq pa ke to wg we th pcs brs be po ro kf bg en) rfl (mS_o hb) rfl (mS_s0 hb) ?_
  refine wq_iload_n rfl rfl ?_
  refine wq_bipush (v := nI 32) rfl (by decide) ?_
  refine wq_bipush (v := nI 126) rfl (by decide) ?_
  refine wq_stat (a := [.int v1, .int (nI 32), .int (nI 126)]) (rest := []) rfl rfl rfl rfl rfl ?_
  refine r_M_in (fun c10 => absurd c10 (fun z => (fun q => nI_ngl q (by decide) z.1) hneg)) (fun c10 => ?_)
  show WP _ _ _ _ 13 [.ref b, .int v1] [.int (nI 0)] (mR b pre 0 tl un kn ap wb tx sq pa ke to wg we th pcs brs be po ro kf bg en)
  refine wq_if_ne rfl (fun c => absurd c (by decide)) (fun _ => ?_)
  refine wq_iconst (v := (-1)) rfl (by decide) ?_
  refine wq_iret rfl trivial ?_
  exact hQ _ ⟨_, _, _, _, _, _, _, _, _, _, _, _, _, _, _, _, _, _, _, rfl, hI0, hSB⟩
theorem RI_wipe {A : AS} {tx sq pa ke : Nat → Nat} (h : RI A tx sq pa ke) : RI (0, A.2) tx sq pa ke := ⟨Nat.zero_le _, fun i hi => absurd hi (Nat.not_lt_zero i), h.2.2⟩
theorem R_wipe {d b : Nat} {pre : mH} {A : AS} {h : mH} {Q : Option Value → mH → Prop} (hb : pre.length = b) (hR : RIA b pre A h)  (hQ : ∀ h', RIA b pre (f_wipe A ).2 h' → Q (some (.int (f_wipe A ).1)) h') : Rn mprog (d + 7) n_M_wipe [.ref b] h Q := by
  obtain ⟨tl, ta, ⟨rn, ra⟩, un, ua, kn, ka⟩ := A
  obtain ⟨tn, ap, wb, tx, sq, pa, ke, to, wg, we, th, pcs, brs, be, po, ro, kf, bg, en, rfl, hI, hSB⟩ := hR
  have hI0 := hI
  obtain ⟨hl, htx, hV, hRR, hu, hU, hk, hK⟩ := hI
  dsimp only at hl htx hV hRR hu hU hk hK
  have hs0 : sq 0 = rn := hRR.1
  have hrn : rn ≤ 40 := hV.1
  refine Rn.in rfl rfl rfl ?_
  show WP _ _ _ _ 0 [.ref b, .long 0] [] (mR b pre tn tl un kn ap wb tx sq pa ke to wg we th pcs brs be po ro kf bg en)
  refine wq_aload_n rfl rfl ?_
  refine wq_iconst (v := nI 0) rfl (by decide) ?_
  refine wq_putfield (h' := mR b pre 0 tl un kn ap wb tx sq pa ke to wg we th pcs brs be po ro kf bg en) rfl (mS_o hb) rfl (mS_s0 hb) ?_
  refine wq_aload_n rfl rfl ?_
  refine wq_getfield (v := .int (nI tl)) rfl (mS_o hb) rfl ?_
  refine wq_istore_n (lv' := [.ref b, .int (nI tl)]) rfl rfl rfl ?_
  refine wq_aload_n rfl rfl ?_
  refine wq_iconst (v := nI 0) rfl (by decide) ?_
  refine wq_putfield (h' := mR b pre 0 0 un kn ap wb tx sq pa ke to wg we th pcs brs be po ro kf bg en) rfl (mS_o hb) rfl (mS_s2 hb) ?_
  refine wq_iload_n rfl rfl ?_
  refine wq_iret rfl trivial ?_
  exact fin_ (A' := (0, ta, (rn, ra), un, ua, kn, ka)) hQ (by unfold f_wipe; (try dsimp only); (repeat first | rw [if_pos (by omega)] | rw [if_neg (by omega)]); try rfl) ⟨_, _, _, _, _, _, _, _, _, _, _, _, _, _, _, _, _, _, _, rfl, (RI_wipe hI0), hSB⟩
theorem rdA_eq {tl : Nat} {ta tx : Nat → Nat} {r : Rw} {un kn : Nat} {ua ka : Nat → Rw} (h : ∀ i, i < tl → tx i = ta i) : rdg tl tx 41 0 0 (fun _ => 0) = rdA (tl, ta, r, un, ua, kn, ka) := rdg_text h 41 0 0 _
theorem R_fault {d b : Nat} {pre : mH} {A : AS} {h : mH} {Q : Option Value → mH → Prop} (hb : pre.length = b) (hR : RIA b pre A h)  (hQ : ∀ h', RIA b pre (f_fault A ).2 h' → Q (some (.int (f_fault A ).1)) h') : Rn mprog (d + 7) n_M_fault [.ref b] h Q := by
  obtain ⟨tl, ta, ⟨rn, ra⟩, un, ua, kn, ka⟩ := A
  obtain ⟨tn, ap, wb, tx, sq, pa, ke, to, wg, we, th, pcs, brs, be, po, ro, kf, bg, en, rfl, hI, hSB⟩ := hR
  have hI0 := hI
  obtain ⟨hl, htx, hV, hRR, hu, hU, hk, hK⟩ := hI
  dsimp only at hl htx hV hRR hu hU hk hK
  have hs0 : sq 0 = rn := hRR.1
  have hrn : rn ≤ 40 := hV.1
  refine Rn.in rfl rfl rfl ?_
  show WP _ _ _ _ 0 [.ref b] [] (mR b pre tn tl un kn ap wb tx sq pa ke to wg we th pcs brs be po ro kf bg en)
  refine wq_aload_n rfl rfl ?_
  refine wq_iconst (v := nI 0) rfl (by decide) ?_
  refine wq_putfield (h' := mR b pre 0 tl un kn ap wb tx sq pa ke to wg we th pcs brs be po ro kf bg en) rfl (mS_o hb) rfl (mS_s0 hb) ?_
  refine wq_aload_n rfl rfl ?_
  refine wq_virt (b := b) (a := []) (rest := []) rfl rfl rfl rfl rfl (mS_o hb) ?_
  refine r_M_reads hb hl (fun i hi => by rw [(htx i hi).1]; exact (htx i hi).2) hSB (fun _ => 0) ?_
  intro ap1 to1 th1 pcs1 brs1 be1 po1 ro1 kf1 bg1 en1 hRR1 hSB1
  rw [rdA_eq (r := (rn, ra)) (un := un) (kn := kn) (ua := ua) (ka := ka) (fun i hi => (htx i hi).1)] at hRR1 ⊢
  show WP _ _ _ _ 9 [.ref b] [.int (opI (rdA (tl, ta, (rn, ra), un, ua, kn, ka)).1)] (mR b pre 0 tl un kn ap1 wb tx sq pa ke to1 wg we th1 pcs1 brs1 be1 po1 ro1 kf1 bg1 en1)
  refine wq_iret rfl trivial ?_
  exact fin_ (A' := (tl, ta, (rn, ra), un, ua, kn, ka)) hQ (by unfold f_fault; (try dsimp only); (repeat first | rw [if_pos (by omega)] | rw [if_neg (by omega)]); try rfl) ⟨_, _, _, _, _, _, _, _, _, _, _, _, _, _, _, _, _, _, _, rfl, hI0, hSB1⟩
theorem RR_add {sq sq' : Nat → Nat} {rn ac cd : Nat} {ra : Nat → Nat} (h : RR sq (rn, ra)) (hc : cdA ac = cd) (e : sq' = uN' (uN' sq 0 (sq 0 + 1)) (uN' sq 0 (sq 0 + 1) 0) cd) : RR sq' (rAd (rn, ra) ac) := by
  have h0 : sq 0 = rn := h.1
  subst e
  rw [uN_s, h0]
  refine ⟨?_, fun i hi => ?_⟩
  · rw [uN_n (by omega), uN_s]; rfl
  · have hi : i < rn + 1 := hi
    show _ = cdA (uN' ra rn ac i)
    by_cases q : i = rn
    · rw [q, uN_s, uN_s, hc]
    · rw [uN_n (by omega), uN_n (by omega), uN_n q]
      exact h.2 i (by show i < rn; omega)
theorem R_act {d b : Nat} {pre : mH} {A : AS} {h : mH} {Q : Option Value → mH → Prop} (hb : pre.length = b) (hR : RIA b pre A h) {κ : Nat} (hκ0 : κ < 2 ^ 31) {x : Nat} (hx0 : x < 2 ^ 31) {y : Nat} (hy0 : y < 2 ^ 31) (hQ : ∀ h', RIA b pre (f_act A κ x y).2 h' → Q (some (.int (f_act A κ x y).1)) h') : Rn mprog (d + 7) n_M_act [.ref b, .int (nI κ), .int (nI x), .int (nI y)] h Q := by
  obtain ⟨tl, ta, ⟨rn, ra⟩, un, ua, kn, ka⟩ := A
  obtain ⟨tn, ap, wb, tx, sq, pa, ke, to, wg, we, th, pcs, brs, be, po, ro, kf, bg, en, rfl, hI, hSB⟩ := hR
  have hI0 := hI
  obtain ⟨hl, htx, hV, hRR, hu, hU, hk, hK⟩ := hI
  dsimp only at hl htx hV hRR hu hU hk hK
  have hs0 : sq 0 = rn := hRR.1
  have hrn : rn ≤ 40 := hV.1
  refine Rn.in rfl rfl rfl ?_
  show WP _ _ _ _ 0 [.ref b, .int (nI κ), .int (nI x), .int (nI y), .long 0] [] (mR b pre tn tl un kn ap wb tx sq pa ke to wg we th pcs brs be po ro kf bg en)
  refine wq_aload_n rfl rfl ?_
  refine wq_iconst (v := nI 0) rfl (by decide) ?_
  refine wq_putfield (h' := mR b pre 0 tl un kn ap wb tx sq pa ke to wg we th pcs brs be po ro kf bg en) rfl (mS_o hb) rfl (mS_s0 hb) ?_
  refine wq_iload_n rfl rfl ?_
  refine wq_iconst (v := nI 0) rfl (by decide) ?_
  refine wq_iconst (v := nI 3) rfl (by decide) ?_
  refine wq_stat (a := [.int (nI κ), .int (nI 0), .int (nI 3)]) (rest := []) rfl rfl rfl rfl rfl ?_
  refine r_M_inN (by omega) (by omega) (by omega) (fun c8 => ?_) (fun c8 => ?_)
  · skip
    show WP _ _ _ _ 11 [.ref b, .int (nI κ), .int (nI x), .int (nI y), .long 0] [.int (nI 1)] (mR b pre 0 tl un kn ap wb tx sq pa ke to wg we th pcs brs be po ro kf bg en)
    refine wq_if_eq rfl (fun c => absurd c (by decide)) (fun _ => ?_)
    refine wq_iload_n rfl rfl ?_
    refine wq_iconst (v := nI 0) rfl (by decide) ?_
    refine wq_bipush (v := nI 8) rfl (by decide) ?_
    refine wq_stat (a := [.int (nI x), .int (nI 0), .int (nI 8)]) (rest := []) rfl rfl rfl rfl rfl ?_
    refine r_M_inN (by omega) (by omega) (by omega) (fun c18 => ?_) (fun c18 => ?_)
    · skip
      show WP _ _ _ _ 21 [.ref b, .int (nI κ), .int (nI x), .int (nI y), .long 0] [.int (nI 1)] (mR b pre 0 tl un kn ap wb tx sq pa ke to wg we th pcs brs be po ro kf bg en)
      refine wq_if_eq rfl (fun c => absurd c (by decide)) (fun _ => ?_)
      refine wq_iload_n rfl rfl ?_
      refine wq_iconst (v := nI 0) rfl (by decide) ?_
      refine wq_bipush (v := nI 8) rfl (by decide) ?_
      refine wq_stat (a := [.int (nI y), .int (nI 0), .int (nI 8)]) (rest := []) rfl rfl rfl rfl rfl ?_
      refine r_M_inN (by omega) (by omega) (by omega) (fun c28 => ?_) (fun c28 => ?_)
      · skip
        show WP _ _ _ _ 31 [.ref b, .int (nI κ), .int (nI x), .int (nI y), .long 0] [.int (nI 1)] (mR b pre 0 tl un kn ap wb tx sq pa ke to wg we th pcs brs be po ro kf bg en)
        refine wq_if_eq rfl (fun c => absurd c (by decide)) (fun _ => ?_)
        refine wq_iload_n rfl rfl ?_
        refine wq_iconst (v := nI 1) rfl (by decide) ?_
        refine wn_ic_le rfl (by omega) (by omega) (fun c36 => ?_) (fun c36 => ?_)
        · skip
          refine wq_aload_n rfl rfl ?_
          refine wq_aload_n rfl rfl ?_
          refine wq_getfield (v := .ref (b + 2)) rfl (mS_o hb) rfl ?_
          refine wq_iconst (v := nI 0) rfl (by decide) ?_
          refine wn_iaload (g := sq) rfl (mS_a3 hb) (by omega) (by decide) ?_
          refine wq_virt (b := b) (a := [.int (nI (sq 0))]) (rest := []) rfl rfl rfl rfl rfl (mS_o hb) ?_
          rw [hs0]
          refine r_R_runs hb hSB hV hRR (k := rn) (by omega) ?_
          intro th1 pcs1 brs1 be1 po1 ro1 kf1 bg1 en1 hS hSB1
          have hTV := stP (k := rn) hV (by omega)
          have hth1 : th1 < 512 := by rw [hS.1]; exact hTV.1.1
          have hbe1 : ∀ p, p < 9 → be1 p < 512 := fun p hp => by rw [hS.2.1 p hp]; exact hTV.1.2.1.1 p hp
          have hpc1 : pcs1 < 512 := hS.2.2.1.1
          have hpo1 : ∀ p, p < 9 → po1 p < 9 := hS.2.2.1.2.1
          have hed := sim_ed hTV hS.2.1
          have hnp := npT_eq hTV.1.2.1 hS.2.2.1
          show WP _ _ _ _ 56 [.ref b, .int (nI κ), .int (nI x), .int (nI y), .long 0] [.int (nI 1)] (mR b pre 0 tl un kn ap wb tx sq pa ke to wg we th1 pcs1 brs1 be1 po1 ro1 kf1 bg1 en1)
          refine wq_pop rfl rfl ?_
          refine wq_iload_n rfl rfl ?_
          refine wq_iload_n rfl rfl ?_
          refine wq_iload_n rfl rfl ?_
          refine wq_stat (a := [.int (nI κ), .int (nI x), .int (nI y)]) (rest := []) rfl rfl rfl rfl rfl ?_
          refine r_M_codeOf (by omega) (by omega) (by omega) ?_
          show WP _ _ _ _ 63 [.ref b, .int (nI κ), .int (nI x), .int (nI y), .long 0] [.int (nI (cdN κ x y))] (mR b pre 0 tl un kn ap wb tx sq pa ke to wg we th1 pcs1 brs1 be1 po1 ro1 kf1 bg1 en1)
          refine wq_istore (lv' := [.ref b, .int (nI κ), .int (nI x), .int (nI y), .int (nI (cdN κ x y))]) rfl rfl rfl ?_
          refine wq_aload_n rfl rfl ?_
          refine wq_iload rfl rfl ?_
          refine wq_virt (b := b) (a := [.int (nI (cdN κ x y))]) (rest := []) rfl rfl rfl rfl rfl (mS_o hb) ?_
          have hav := acN_AV (κ := κ) (x := x) (y := y) (by omega) (by omega) (by omega)
          have hcd := acN_cd (κ := κ) (x := x) (y := y) (by omega) (by omega) (by omega)
          obtain ⟨q1, q2, q3, q4, q5⟩ := cdA_f hav
          have hmc := mayT_cd hav hS.1 hS.2.1
          rw [hcd] at q1 q2 q3 q4 q5 hmc
          have q6 : cdN κ x y / 10 % 10 < 9 := by rw [← q3]; exact hav.2.1
          refine r_S_may hb q1 q6 q5 hth1 hbe1 (fun c68 => ?_) (fun c68 => ?_)
          · skip
            show WP _ _ _ _ 71 [.ref b, .int (nI κ), .int (nI x), .int (nI y), .int (nI (cdN κ x y))] [.int (nI 1)] (mR b pre 0 tl un kn ap wb tx sq pa ke to wg we th1 pcs1 brs1 be1 po1 ro1 kf1 bg1 en1)
            rw [hmc] at c68
            refine wq_if_ne rfl (fun _ => ?_) (fun c => absurd c (by decide))
            refine wq_aload_n rfl rfl ?_
            refine wq_getfield (v := .ref (b + 2)) rfl (mS_o hb) rfl ?_
            refine wq_iconst (v := nI 0) rfl (by decide) ?_
            refine wn_iaload (g := sq) rfl (mS_a3 hb) (by omega) (by decide) ?_
            refine wq_bipush (v := nI 40) rfl (by decide) ?_
            refine wn_ic_ne rfl (by omega) (by omega) (fun c85 => ?_) (fun c85 => ?_)
            · skip
              refine wq_aload_n rfl rfl ?_
              refine wq_virt (b := b) (a := []) (rest := []) rfl rfl rfl rfl rfl (mS_o hb) ?_
              refine r_M_notes hb hu ?_
              show WP _ _ _ _ 95 [.ref b, .int (nI κ), .int (nI x), .int (nI y), .int (nI (cdN κ x y))] [] (mR b pre 0 tl (unN un) kn ap wb tx sq (paN un pa sq) ke to wg we th1 pcs1 brs1 be1 po1 ro1 kf1 bg1 en1)
              refine wq_aload_n rfl rfl ?_
              refine wq_getfield (v := .ref (b + 2)) rfl (mS_o hb) rfl ?_
              refine wq_iconst (v := nI 0) rfl (by decide) ?_
              refine wq_dup2 rfl rfl rfl ?_
              refine wn_iaload (g := sq) rfl (mS_a3 hb) (by omega) (by decide) ?_
              refine wq_iconst (v := nI 1) rfl (by decide) ?_
              refine wn_iadd rfl ?_
              refine wn_iastore (g := sq) (h' := mR b pre 0 tl (unN un) kn ap wb tx (uN' sq 0 ((sq 0) + 1)) (paN un pa sq) ke to wg we th1 pcs1 brs1 be1 po1 ro1 kf1 bg1 en1) rfl (mS_a3 hb) (by omega) (by decide) (mS_t3 hb) ?_
              refine wq_aload_n rfl rfl ?_
              refine wq_getfield (v := .ref (b + 2)) rfl (mS_o hb) rfl ?_
              refine wq_aload_n rfl rfl ?_
              refine wq_getfield (v := .ref (b + 2)) rfl (mS_o hb) rfl ?_
              refine wq_iconst (v := nI 0) rfl (by decide) ?_
              refine wn_iaload (g := (uN' sq 0 ((sq 0) + 1))) rfl (mS_a3 hb) (by omega) (by decide) ?_
              refine wq_iload rfl rfl ?_
              refine wn_iastore (g := (uN' sq 0 ((sq 0) + 1))) (h' := mR b pre 0 tl (unN un) kn ap wb tx (uN' ((uN' sq 0 ((sq 0) + 1))) (((uN' sq 0 ((sq 0) + 1))) 0) (cdN κ x y)) (paN un pa sq) ke to wg we th1 pcs1 brs1 be1 po1 ro1 kf1 bg1 en1) rfl (mS_a3 hb) (by rw [uN_s]; omega) (by decide) (mS_t3 hb) ?_
              refine wq_aload_n rfl rfl ?_
              refine wq_getfield (v := .ref (b + 2)) rfl (mS_o hb) rfl ?_
              refine wq_iconst (v := nI 0) rfl (by decide) ?_
              refine wn_iaload (g := (uN' ((uN' sq 0 ((sq 0) + 1))) (((uN' sq 0 ((sq 0) + 1))) 0) (cdN κ x y))) rfl (mS_a3 hb) (by omega) (by decide) ?_
              refine wq_iret rfl trivial ?_
              have hm1 : mayT (sT (tl, ta, (rn, ra), un, ua, kn, ka)) (acN κ x y) = true := c68
              have ev : uN' (uN' sq 0 (sq 0 + 1)) (uN' sq 0 (sq 0 + 1) 0) (cdN κ x y) 0 = rn + 1 := by rw [uN_s, uN_n (by omega), uN_s, hs0]
              rw [ev]
              have hm2 : mayT (stR ra rn) (acN κ x y) = true := hm1
              exact fin_ (A' := sR (nT (tl, ta, (rn, ra), un, ua, kn, ka)) (rAd (rn, ra) (acN κ x y))) hQ (by unfold f_act; (try dsimp only); (repeat first | rw [if_pos (by omega)] | rw [if_neg (by omega)] | rw [if_pos hm1] | rw [if_neg (by rw [hm1]; decide)]); try rfl) ⟨_, _, _, _, _, _, _, _, _, _, _, _, _, _, _, _, _, _, _, rfl, (RI_row (RI_note hI0) (RV_add hV (by omega) (acN_AV (by omega) (by omega) (by omega)) hm2) (RR_add hRR (acN_cd (by omega) (by omega) (by omega)) rfl)), hSB1⟩
            · skip
              refine wq_bipush (v := (-3)) rfl (by decide) ?_
              refine wq_iret rfl trivial ?_
              have hm1 : mayT (sT (tl, ta, (rn, ra), un, ua, kn, ka)) (acN κ x y) = true := c68
              exact fin_ (A' := (tl, ta, (rn, ra), un, ua, kn, ka)) hQ (by unfold f_act; (try dsimp only); (repeat first | rw [if_pos (by omega)] | rw [if_neg (by omega)] | rw [if_pos hm1] | rw [if_neg (by rw [hm1]; decide)]); try rfl) ⟨_, _, _, _, _, _, _, _, _, _, _, _, _, _, _, _, _, _, _, rfl, hI0, hSB1⟩
          · skip
            show WP _ _ _ _ 71 [.ref b, .int (nI κ), .int (nI x), .int (nI y), .int (nI (cdN κ x y))] [.int (nI 0)] (mR b pre 0 tl un kn ap wb tx sq pa ke to wg we th1 pcs1 brs1 be1 po1 ro1 kf1 bg1 en1)
            rw [hmc] at c68
            refine wq_if_ne rfl (fun c => absurd c (by decide)) (fun _ => ?_)
            refine wq_bipush (v := (-2)) rfl (by decide) ?_
            refine wq_iret rfl trivial ?_
            have hm1 : mayT (sT (tl, ta, (rn, ra), un, ua, kn, ka)) (acN κ x y) = false := c68
            exact fin_ (A' := (tl, ta, (rn, ra), un, ua, kn, ka)) hQ (by unfold f_act; (try dsimp only); (repeat first | rw [if_pos (by omega)] | rw [if_neg (by omega)] | rw [if_pos hm1] | rw [if_neg (by rw [hm1]; decide)]); try rfl) ⟨_, _, _, _, _, _, _, _, _, _, _, _, _, _, _, _, _, _, _, rfl, hI0, hSB1⟩
        · skip
          refine wq_iload_n rfl rfl ?_
          refine wq_iload_n rfl rfl ?_
          refine wn_ic_ne rfl (by omega) (by omega) (fun c41 => ?_) (fun c41 => ?_)
          · skip
            refine wq_aload_n rfl rfl ?_
            refine wq_aload_n rfl rfl ?_
            refine wq_getfield (v := .ref (b + 2)) rfl (mS_o hb) rfl ?_
            refine wq_iconst (v := nI 0) rfl (by decide) ?_
            refine wn_iaload (g := sq) rfl (mS_a3 hb) (by omega) (by decide) ?_
            refine wq_virt (b := b) (a := [.int (nI (sq 0))]) (rest := []) rfl rfl rfl rfl rfl (mS_o hb) ?_
            rw [hs0]
            refine r_R_runs hb hSB hV hRR (k := rn) (by omega) ?_
            intro th1 pcs1 brs1 be1 po1 ro1 kf1 bg1 en1 hS hSB1
            have hTV := stP (k := rn) hV (by omega)
            have hth1 : th1 < 512 := by rw [hS.1]; exact hTV.1.1
            have hbe1 : ∀ p, p < 9 → be1 p < 512 := fun p hp => by rw [hS.2.1 p hp]; exact hTV.1.2.1.1 p hp
            have hpc1 : pcs1 < 512 := hS.2.2.1.1
            have hpo1 : ∀ p, p < 9 → po1 p < 9 := hS.2.2.1.2.1
            have hed := sim_ed hTV hS.2.1
            have hnp := npT_eq hTV.1.2.1 hS.2.2.1
            show WP _ _ _ _ 56 [.ref b, .int (nI κ), .int (nI x), .int (nI y), .long 0] [.int (nI 1)] (mR b pre 0 tl un kn ap wb tx sq pa ke to wg we th1 pcs1 brs1 be1 po1 ro1 kf1 bg1 en1)
            refine wq_pop rfl rfl ?_
            refine wq_iload_n rfl rfl ?_
            refine wq_iload_n rfl rfl ?_
            refine wq_iload_n rfl rfl ?_
            refine wq_stat (a := [.int (nI κ), .int (nI x), .int (nI y)]) (rest := []) rfl rfl rfl rfl rfl ?_
            refine r_M_codeOf (by omega) (by omega) (by omega) ?_
            show WP _ _ _ _ 63 [.ref b, .int (nI κ), .int (nI x), .int (nI y), .long 0] [.int (nI (cdN κ x y))] (mR b pre 0 tl un kn ap wb tx sq pa ke to wg we th1 pcs1 brs1 be1 po1 ro1 kf1 bg1 en1)
            refine wq_istore (lv' := [.ref b, .int (nI κ), .int (nI x), .int (nI y), .int (nI (cdN κ x y))]) rfl rfl rfl ?_
            refine wq_aload_n rfl rfl ?_
            refine wq_iload rfl rfl ?_
            refine wq_virt (b := b) (a := [.int (nI (cdN κ x y))]) (rest := []) rfl rfl rfl rfl rfl (mS_o hb) ?_
            have hav := acN_AV (κ := κ) (x := x) (y := y) (by omega) (by omega) (by omega)
            have hcd := acN_cd (κ := κ) (x := x) (y := y) (by omega) (by omega) (by omega)
            obtain ⟨q1, q2, q3, q4, q5⟩ := cdA_f hav
            have hmc := mayT_cd hav hS.1 hS.2.1
            rw [hcd] at q1 q2 q3 q4 q5 hmc
            have q6 : cdN κ x y / 10 % 10 < 9 := by rw [← q3]; exact hav.2.1
            refine r_S_may hb q1 q6 q5 hth1 hbe1 (fun c68 => ?_) (fun c68 => ?_)
            · skip
              show WP _ _ _ _ 71 [.ref b, .int (nI κ), .int (nI x), .int (nI y), .int (nI (cdN κ x y))] [.int (nI 1)] (mR b pre 0 tl un kn ap wb tx sq pa ke to wg we th1 pcs1 brs1 be1 po1 ro1 kf1 bg1 en1)
              rw [hmc] at c68
              refine wq_if_ne rfl (fun _ => ?_) (fun c => absurd c (by decide))
              refine wq_aload_n rfl rfl ?_
              refine wq_getfield (v := .ref (b + 2)) rfl (mS_o hb) rfl ?_
              refine wq_iconst (v := nI 0) rfl (by decide) ?_
              refine wn_iaload (g := sq) rfl (mS_a3 hb) (by omega) (by decide) ?_
              refine wq_bipush (v := nI 40) rfl (by decide) ?_
              refine wn_ic_ne rfl (by omega) (by omega) (fun c85 => ?_) (fun c85 => ?_)
              · skip
                refine wq_aload_n rfl rfl ?_
                refine wq_virt (b := b) (a := []) (rest := []) rfl rfl rfl rfl rfl (mS_o hb) ?_
                refine r_M_notes hb hu ?_
                show WP _ _ _ _ 95 [.ref b, .int (nI κ), .int (nI x), .int (nI y), .int (nI (cdN κ x y))] [] (mR b pre 0 tl (unN un) kn ap wb tx sq (paN un pa sq) ke to wg we th1 pcs1 brs1 be1 po1 ro1 kf1 bg1 en1)
                refine wq_aload_n rfl rfl ?_
                refine wq_getfield (v := .ref (b + 2)) rfl (mS_o hb) rfl ?_
                refine wq_iconst (v := nI 0) rfl (by decide) ?_
                refine wq_dup2 rfl rfl rfl ?_
                refine wn_iaload (g := sq) rfl (mS_a3 hb) (by omega) (by decide) ?_
                refine wq_iconst (v := nI 1) rfl (by decide) ?_
                refine wn_iadd rfl ?_
                refine wn_iastore (g := sq) (h' := mR b pre 0 tl (unN un) kn ap wb tx (uN' sq 0 ((sq 0) + 1)) (paN un pa sq) ke to wg we th1 pcs1 brs1 be1 po1 ro1 kf1 bg1 en1) rfl (mS_a3 hb) (by omega) (by decide) (mS_t3 hb) ?_
                refine wq_aload_n rfl rfl ?_
                refine wq_getfield (v := .ref (b + 2)) rfl (mS_o hb) rfl ?_
                refine wq_aload_n rfl rfl ?_
                refine wq_getfield (v := .ref (b + 2)) rfl (mS_o hb) rfl ?_
                refine wq_iconst (v := nI 0) rfl (by decide) ?_
                refine wn_iaload (g := (uN' sq 0 ((sq 0) + 1))) rfl (mS_a3 hb) (by omega) (by decide) ?_
                refine wq_iload rfl rfl ?_
                refine wn_iastore (g := (uN' sq 0 ((sq 0) + 1))) (h' := mR b pre 0 tl (unN un) kn ap wb tx (uN' ((uN' sq 0 ((sq 0) + 1))) (((uN' sq 0 ((sq 0) + 1))) 0) (cdN κ x y)) (paN un pa sq) ke to wg we th1 pcs1 brs1 be1 po1 ro1 kf1 bg1 en1) rfl (mS_a3 hb) (by rw [uN_s]; omega) (by decide) (mS_t3 hb) ?_
                refine wq_aload_n rfl rfl ?_
                refine wq_getfield (v := .ref (b + 2)) rfl (mS_o hb) rfl ?_
                refine wq_iconst (v := nI 0) rfl (by decide) ?_
                refine wn_iaload (g := (uN' ((uN' sq 0 ((sq 0) + 1))) (((uN' sq 0 ((sq 0) + 1))) 0) (cdN κ x y))) rfl (mS_a3 hb) (by omega) (by decide) ?_
                refine wq_iret rfl trivial ?_
                have hm1 : mayT (sT (tl, ta, (rn, ra), un, ua, kn, ka)) (acN κ x y) = true := c68
                have ev : uN' (uN' sq 0 (sq 0 + 1)) (uN' sq 0 (sq 0 + 1) 0) (cdN κ x y) 0 = rn + 1 := by rw [uN_s, uN_n (by omega), uN_s, hs0]
                rw [ev]
                have hm2 : mayT (stR ra rn) (acN κ x y) = true := hm1
                exact fin_ (A' := sR (nT (tl, ta, (rn, ra), un, ua, kn, ka)) (rAd (rn, ra) (acN κ x y))) hQ (by unfold f_act; (try dsimp only); (repeat first | rw [if_pos (by omega)] | rw [if_neg (by omega)] | rw [if_pos hm1] | rw [if_neg (by rw [hm1]; decide)]); try rfl) ⟨_, _, _, _, _, _, _, _, _, _, _, _, _, _, _, _, _, _, _, rfl, (RI_row (RI_note hI0) (RV_add hV (by omega) (acN_AV (by omega) (by omega) (by omega)) hm2) (RR_add hRR (acN_cd (by omega) (by omega) (by omega)) rfl)), hSB1⟩
              · skip
                refine wq_bipush (v := (-3)) rfl (by decide) ?_
                refine wq_iret rfl trivial ?_
                have hm1 : mayT (sT (tl, ta, (rn, ra), un, ua, kn, ka)) (acN κ x y) = true := c68
                exact fin_ (A' := (tl, ta, (rn, ra), un, ua, kn, ka)) hQ (by unfold f_act; (try dsimp only); (repeat first | rw [if_pos (by omega)] | rw [if_neg (by omega)] | rw [if_pos hm1] | rw [if_neg (by rw [hm1]; decide)]); try rfl) ⟨_, _, _, _, _, _, _, _, _, _, _, _, _, _, _, _, _, _, _, rfl, hI0, hSB1⟩
            · skip
              show WP _ _ _ _ 71 [.ref b, .int (nI κ), .int (nI x), .int (nI y), .int (nI (cdN κ x y))] [.int (nI 0)] (mR b pre 0 tl un kn ap wb tx sq pa ke to wg we th1 pcs1 brs1 be1 po1 ro1 kf1 bg1 en1)
              rw [hmc] at c68
              refine wq_if_ne rfl (fun c => absurd c (by decide)) (fun _ => ?_)
              refine wq_bipush (v := (-2)) rfl (by decide) ?_
              refine wq_iret rfl trivial ?_
              have hm1 : mayT (sT (tl, ta, (rn, ra), un, ua, kn, ka)) (acN κ x y) = false := c68
              exact fin_ (A' := (tl, ta, (rn, ra), un, ua, kn, ka)) hQ (by unfold f_act; (try dsimp only); (repeat first | rw [if_pos (by omega)] | rw [if_neg (by omega)] | rw [if_pos hm1] | rw [if_neg (by rw [hm1]; decide)]); try rfl) ⟨_, _, _, _, _, _, _, _, _, _, _, _, _, _, _, _, _, _, _, rfl, hI0, hSB1⟩
          · skip
            refine wq_iconst (v := (-1)) rfl (by decide) ?_
            refine wq_iret rfl trivial ?_
            exact fin_ (A' := (tl, ta, (rn, ra), un, ua, kn, ka)) hQ (by unfold f_act; (try dsimp only); (repeat first | rw [if_pos (by omega)] | rw [if_neg (by omega)]); try rfl) ⟨_, _, _, _, _, _, _, _, _, _, _, _, _, _, _, _, _, _, _, rfl, hI0, hSB⟩
      · skip
        show WP _ _ _ _ 31 [.ref b, .int (nI κ), .int (nI x), .int (nI y), .long 0] [.int (nI 0)] (mR b pre 0 tl un kn ap wb tx sq pa ke to wg we th pcs brs be po ro kf bg en)
        refine wq_if_eq rfl (fun _ => ?_) (fun c => absurd c (by decide))
        refine wq_iconst (v := (-1)) rfl (by decide) ?_
        refine wq_iret rfl trivial ?_
        exact fin_ (A' := (tl, ta, (rn, ra), un, ua, kn, ka)) hQ (by unfold f_act; (try dsimp only); (repeat first | rw [if_pos (by omega)] | rw [if_neg (by omega)]); try rfl) ⟨_, _, _, _, _, _, _, _, _, _, _, _, _, _, _, _, _, _, _, rfl, hI0, hSB⟩
    · skip
      show WP _ _ _ _ 21 [.ref b, .int (nI κ), .int (nI x), .int (nI y), .long 0] [.int (nI 0)] (mR b pre 0 tl un kn ap wb tx sq pa ke to wg we th pcs brs be po ro kf bg en)
      refine wq_if_eq rfl (fun _ => ?_) (fun c => absurd c (by decide))
      refine wq_iconst (v := (-1)) rfl (by decide) ?_
      refine wq_iret rfl trivial ?_
      exact fin_ (A' := (tl, ta, (rn, ra), un, ua, kn, ka)) hQ (by unfold f_act; (try dsimp only); (repeat first | rw [if_pos (by omega)] | rw [if_neg (by omega)]); try rfl) ⟨_, _, _, _, _, _, _, _, _, _, _, _, _, _, _, _, _, _, _, rfl, hI0, hSB⟩
  · skip
    show WP _ _ _ _ 11 [.ref b, .int (nI κ), .int (nI x), .int (nI y), .long 0] [.int (nI 0)] (mR b pre 0 tl un kn ap wb tx sq pa ke to wg we th pcs brs be po ro kf bg en)
    refine wq_if_eq rfl (fun _ => ?_) (fun c => absurd c (by decide))
    refine wq_iconst (v := (-1)) rfl (by decide) ?_
    refine wq_iret rfl trivial ?_
    exact fin_ (A' := (tl, ta, (rn, ra), un, ua, kn, ka)) hQ (by unfold f_act; (try dsimp only); (repeat first | rw [if_pos (by omega)] | rw [if_neg (by omega)]); try rfl) ⟨_, _, _, _, _, _, _, _, _, _, _, _, _, _, _, _, _, _, _, rfl, hI0, hSB⟩
theorem R_act_neg {d b : Nat} {pre : mH} {A : AS} {h : mH} {Q : Option Value → mH → Prop} (hb : pre.length = b) (hR : RIA b pre A h) {v1 v2 v3 : Int32} (hneg : v1 < 0 ∨ v2 < 0 ∨ v3 < 0) (hQ : ∀ h', RIA b pre A h' → Q (some (.int (-1))) h') : Rn mprog (d + 7) n_M_act [.ref b, .int v1, .int v2, .int v3] h Q := by
  obtain ⟨tl, ta, ⟨rn, ra⟩, un, ua, kn, ka⟩ := A
  obtain ⟨tn, ap, wb, tx, sq, pa, ke, to, wg, we, th, pcs, brs, be, po, ro, kf, bg, en, rfl, hI, hSB⟩ := hR
  have hI0 := hI
  obtain ⟨hl, htx, hV, hRR, hu, hU, hk, hK⟩ := hI
  dsimp only at hl htx hV hRR hu hU hk hK
  have hs0 : sq 0 = rn := hRR.1
  have hrn : rn ≤ 40 := hV.1
  refine Rn.in rfl rfl rfl ?_
  show WP _ _ _ _ 0 [.ref b, .int v1, .int v2, .int v3, .long 0] [] (mR b pre tn tl un kn ap wb tx sq pa ke to wg we th pcs brs be po ro kf bg en)
  refine wq_aload_n rfl rfl ?_
  refine wq_iconst (v := nI 0) rfl (by decide) ?_
  refine wq_putfield (h' := mR b pre 0 tl un kn ap wb tx sq pa ke to wg we th pcs brs be po ro kf bg en) rfl (mS_o hb) rfl (mS_s0 hb) ?_
  refine wq_iload_n rfl rfl ?_
  refine wq_iconst (v := nI 0) rfl (by decide) ?_
  refine wq_iconst (v := nI 3) rfl (by decide) ?_
  refine wq_stat (a := [.int v1, .int (nI 0), .int (nI 3)]) (rest := []) rfl rfl rfl rfl rfl ?_
  refine r_M_in (fun c8 => ?_) (fun c8 => ?_)
  · skip
    show WP _ _ _ _ 11 [.ref b, .int v1, .int v2, .int v3, .long 0] [.int (nI 1)] (mR b pre 0 tl un kn ap wb tx sq pa ke to wg we th pcs brs be po ro kf bg en)
    refine wq_if_eq rfl (fun c => absurd c (by decide)) (fun _ => ?_)
    refine wq_iload_n rfl rfl ?_
    refine wq_iconst (v := nI 0) rfl (by decide) ?_
    refine wq_bipush (v := nI 8) rfl (by decide) ?_
    refine wq_stat (a := [.int v2, .int (nI 0), .int (nI 8)]) (rest := []) rfl rfl rfl rfl rfl ?_
    refine r_M_in (fun c18 => ?_) (fun c18 => ?_)
    · skip
      show WP _ _ _ _ 21 [.ref b, .int v1, .int v2, .int v3, .long 0] [.int (nI 1)] (mR b pre 0 tl un kn ap wb tx sq pa ke to wg we th pcs brs be po ro kf bg en)
      refine wq_if_eq rfl (fun c => absurd c (by decide)) (fun _ => ?_)
      refine wq_iload_n rfl rfl ?_
      refine wq_iconst (v := nI 0) rfl (by decide) ?_
      refine wq_bipush (v := nI 8) rfl (by decide) ?_
      refine wq_stat (a := [.int v3, .int (nI 0), .int (nI 8)]) (rest := []) rfl rfl rfl rfl rfl ?_
      refine r_M_in (fun c28 => absurd c28 (fun z => hneg.elim (fun q => nI_ngl q (by decide) c8.1) (fun h0 => h0.elim (fun q => nI_ngl q (by decide) c18.1) (fun h1 => (fun q => nI_ngl q (by decide) z.1) h1)))) (fun c28 => ?_)
      show WP _ _ _ _ 31 [.ref b, .int v1, .int v2, .int v3, .long 0] [.int (nI 0)] (mR b pre 0 tl un kn ap wb tx sq pa ke to wg we th pcs brs be po ro kf bg en)
      refine wq_if_eq rfl (fun _ => ?_) (fun c => absurd c (by decide))
      refine wq_iconst (v := (-1)) rfl (by decide) ?_
      refine wq_iret rfl trivial ?_
      exact hQ _ ⟨_, _, _, _, _, _, _, _, _, _, _, _, _, _, _, _, _, _, _, rfl, hI0, hSB⟩
    · skip
      show WP _ _ _ _ 21 [.ref b, .int v1, .int v2, .int v3, .long 0] [.int (nI 0)] (mR b pre 0 tl un kn ap wb tx sq pa ke to wg we th pcs brs be po ro kf bg en)
      refine wq_if_eq rfl (fun _ => ?_) (fun c => absurd c (by decide))
      refine wq_iconst (v := (-1)) rfl (by decide) ?_
      refine wq_iret rfl trivial ?_
      exact hQ _ ⟨_, _, _, _, _, _, _, _, _, _, _, _, _, _, _, _, _, _, _, rfl, hI0, hSB⟩
  · skip
    show WP _ _ _ _ 11 [.ref b, .int v1, .int v2, .int v3, .long 0] [.int (nI 0)] (mR b pre 0 tl un kn ap wb tx sq pa ke to wg we th pcs brs be po ro kf bg en)
    refine wq_if_eq rfl (fun _ => ?_) (fun c => absurd c (by decide))
    refine wq_iconst (v := (-1)) rfl (by decide) ?_
    refine wq_iret rfl trivial ?_
    exact hQ _ ⟨_, _, _, _, _, _, _, _, _, _, _, _, _, _, _, _, _, _, _, rfl, hI0, hSB⟩
theorem R_drop {d b : Nat} {pre : mH} {A : AS} {h : mH} {Q : Option Value → mH → Prop} (hb : pre.length = b) (hR : RIA b pre A h)  (hQ : ∀ h', RIA b pre (f_drop A ).2 h' → Q (some (.int (f_drop A ).1)) h') : Rn mprog (d + 7) n_M_drop [.ref b] h Q := by
  obtain ⟨tl, ta, ⟨rn, ra⟩, un, ua, kn, ka⟩ := A
  obtain ⟨tn, ap, wb, tx, sq, pa, ke, to, wg, we, th, pcs, brs, be, po, ro, kf, bg, en, rfl, hI, hSB⟩ := hR
  have hI0 := hI
  obtain ⟨hl, htx, hV, hRR, hu, hU, hk, hK⟩ := hI
  dsimp only at hl htx hV hRR hu hU hk hK
  have hs0 : sq 0 = rn := hRR.1
  have hrn : rn ≤ 40 := hV.1
  refine Rn.in rfl rfl rfl ?_
  show WP _ _ _ _ 0 [.ref b] [] (mR b pre tn tl un kn ap wb tx sq pa ke to wg we th pcs brs be po ro kf bg en)
  refine wq_aload_n rfl rfl ?_
  refine wq_iconst (v := nI 0) rfl (by decide) ?_
  refine wq_putfield (h' := mR b pre 0 tl un kn ap wb tx sq pa ke to wg we th pcs brs be po ro kf bg en) rfl (mS_o hb) rfl (mS_s0 hb) ?_
  refine wq_aload_n rfl rfl ?_
  refine wq_getfield (v := .ref (b + 2)) rfl (mS_o hb) rfl ?_
  refine wq_iconst (v := nI 0) rfl (by decide) ?_
  refine wn_iaload (g := sq) rfl (mS_a3 hb) (by omega) (by decide) ?_
  refine wn_if_ne rfl (by omega) (fun c11 => ?_) (fun c11 => ?_)
  · skip
    refine wq_aload_n rfl rfl ?_
    refine wq_virt (b := b) (a := []) (rest := []) rfl rfl rfl rfl rfl (mS_o hb) ?_
    refine r_M_notes hb hu ?_
    show WP _ _ _ _ 21 [.ref b] [] (mR b pre 0 tl (unN un) kn ap wb tx sq (paN un pa sq) ke to wg we th pcs brs be po ro kf bg en)
    refine wq_aload_n rfl rfl ?_
    refine wq_getfield (v := .ref (b + 2)) rfl (mS_o hb) rfl ?_
    refine wq_iconst (v := nI 0) rfl (by decide) ?_
    refine wq_dup2 rfl rfl rfl ?_
    refine wn_iaload (g := sq) rfl (mS_a3 hb) (by omega) (by decide) ?_
    refine wq_iconst (v := nI 1) rfl (by decide) ?_
    refine wn_isub rfl (by omega) ?_
    refine wn_iastore (g := sq) (h' := mR b pre 0 tl (unN un) kn ap wb tx (uN' sq 0 ((sq 0) - 1)) (paN un pa sq) ke to wg we th pcs brs be po ro kf bg en) rfl (mS_a3 hb) (by omega) (by decide) (mS_t3 hb) ?_
    refine wq_aload_n rfl rfl ?_
    refine wq_getfield (v := .ref (b + 2)) rfl (mS_o hb) rfl ?_
    refine wq_iconst (v := nI 0) rfl (by decide) ?_
    refine wn_iaload (g := (uN' sq 0 ((sq 0) - 1))) rfl (mS_a3 hb) (by omega) (by decide) ?_
    refine wq_iret rfl trivial ?_
    rw [uN_s, hs0]
    exact fin_ (A' := sR (nT (tl, ta, (rn, ra), un, ua, kn, ka)) (rn - 1, ra)) hQ (by unfold f_drop; (try dsimp only); (repeat first | rw [if_pos (by omega)] | rw [if_neg (by omega)]); try rfl) ⟨_, _, _, _, _, _, _, _, _, _, _, _, _, _, _, _, _, _, _, rfl, (RI_row (RI_note hI0) (RV_le hV (by omega)) ⟨uN_s, fun i hi => by rw [uN_n (by omega)]; exact hRR.2 i (by have : i < rn - 1 := hi; show i < rn; omega)⟩), hSB⟩
  · skip
    refine wq_bipush (v := (-2)) rfl (by decide) ?_
    refine wq_iret rfl trivial ?_
    exact fin_ (A' := (tl, ta, (rn, ra), un, ua, kn, ka)) hQ (by unfold f_drop; (try dsimp only); (repeat first | rw [if_pos (by omega)] | rw [if_neg (by omega)]); try rfl) ⟨_, _, _, _, _, _, _, _, _, _, _, _, _, _, _, _, _, _, _, rfl, hI0, hSB⟩
theorem R_told {d b : Nat} {pre : mH} {A : AS} {h : mH} {Q : Option Value → mH → Prop} (hb : pre.length = b) (hR : RIA b pre A h) {k : Nat} (hk0 : k < 2 ^ 31) {w : Nat} (hw0 : w < 2 ^ 31) (hQ : ∀ h', RIA b pre (f_told A k w).2 h' → Q (some (.int (f_told A k w).1)) h') : Rn mprog (d + 7) n_M_told [.ref b, .int (nI k), .int (nI w)] h Q := by
  obtain ⟨tl, ta, ⟨rn, ra⟩, un, ua, kn, ka⟩ := A
  obtain ⟨tn, ap, wb, tx, sq, pa, ke, to, wg, we, th, pcs, brs, be, po, ro, kf, bg, en, rfl, hI, hSB⟩ := hR
  have hI0 := hI
  obtain ⟨hl, htx, hV, hRR, hu, hU, hk, hK⟩ := hI
  dsimp only at hl htx hV hRR hu hU hk hK
  have hs0 : sq 0 = rn := hRR.1
  have hrn : rn ≤ 40 := hV.1
  refine Rn.in rfl rfl rfl ?_
  show WP _ _ _ _ 0 [.ref b, .int (nI k), .int (nI w), .long 0] [] (mR b pre tn tl un kn ap wb tx sq pa ke to wg we th pcs brs be po ro kf bg en)
  refine wq_aload_n rfl rfl ?_
  refine wq_iconst (v := nI 0) rfl (by decide) ?_
  refine wq_putfield (h' := mR b pre 0 tl un kn ap wb tx sq pa ke to wg we th pcs brs be po ro kf bg en) rfl (mS_o hb) rfl (mS_s0 hb) ?_
  refine wq_iload_n rfl rfl ?_
  refine wq_iconst (v := nI 1) rfl (by decide) ?_
  refine wq_aload_n rfl rfl ?_
  refine wq_getfield (v := .ref (b + 2)) rfl (mS_o hb) rfl ?_
  refine wq_iconst (v := nI 0) rfl (by decide) ?_
  refine wn_iaload (g := sq) rfl (mS_a3 hb) (by omega) (by decide) ?_
  refine wq_stat (a := [.int (nI k), .int (nI 1), .int (nI (sq 0))]) (rest := []) rfl rfl rfl rfl rfl ?_
  refine r_M_inN (by omega) (by omega) (by omega) (fun c13 => ?_) (fun c13 => ?_)
  · skip
    show WP _ _ _ _ 16 [.ref b, .int (nI k), .int (nI w), .long 0] [.int (nI 1)] (mR b pre 0 tl un kn ap wb tx sq pa ke to wg we th pcs brs be po ro kf bg en)
    refine wq_if_eq rfl (fun c => absurd c (by decide)) (fun _ => ?_)
    refine wq_iload_n rfl rfl ?_
    refine wq_iconst (v := nI 0) rfl (by decide) ?_
    refine wq_iconst (v := nI 2) rfl (by decide) ?_
    refine wq_stat (a := [.int (nI w), .int (nI 0), .int (nI 2)]) (rest := []) rfl rfl rfl rfl rfl ?_
    refine r_M_inN (by omega) (by omega) (by omega) (fun c22 => ?_) (fun c22 => ?_)
    · skip
      show WP _ _ _ _ 25 [.ref b, .int (nI k), .int (nI w), .long 0] [.int (nI 1)] (mR b pre 0 tl un kn ap wb tx sq pa ke to wg we th pcs brs be po ro kf bg en)
      refine wq_if_ne rfl (fun _ => ?_) (fun c => absurd c (by decide))
      have ek : sq k = cdA (ra (k - 1)) := by rw [← hRR.2 (k - 1) (by show k - 1 < rn; omega)]; congr 1; omega
      obtain ⟨q1, q2, q3, q4, q5⟩ := cdA_f (hV.2.1 (k - 1) (by show k - 1 < rn; omega))
      rw [← ek] at q1 q2 q3 q4 q5
      refine wq_aload_n rfl rfl ?_
      refine wq_getfield (v := .ref (b + 2)) rfl (mS_o hb) rfl ?_
      refine wq_iload_n rfl rfl ?_
      refine wn_iaload (g := sq) rfl (mS_a3 hb) (by omega) (by decide) ?_
      refine wq_stat (a := [.int (nI (sq k))]) (rest := []) rfl rfl rfl rfl rfl ?_
      refine r_M_kindOf (by omega) ?_
      show WP _ _ _ _ 39 [.ref b, .int (nI k), .int (nI w), .long 0] [.int (nI ((sq k) / 100))] (mR b pre 0 tl un kn ap wb tx sq pa ke to wg we th pcs brs be po ro kf bg en)
      refine wq_istore_n (lv' := [.ref b, .int (nI k), .int (nI w), .int (nI ((sq k) / 100))]) rfl rfl rfl ?_
      refine wq_iload_n rfl rfl ?_
      refine wn_if_ne rfl (by omega) (fun c41 => ?_) (fun c41 => ?_)
      · skip
        refine wq_iload_n rfl rfl ?_
        refine wq_iconst (v := nI 1) rfl (by decide) ?_
        refine wn_ic_ne rfl (by omega) (by omega) (fun c50 => ?_) (fun c50 => ?_)
        · skip
          refine wq_iload_n rfl rfl ?_
          refine wq_iconst (v := nI 2) rfl (by decide) ?_
          refine wn_ic_ge rfl (by omega) (by omega) (fun c67 => ?_) (fun c67 => ?_)
          · skip
            refine wq_aload_n rfl rfl ?_
            refine wq_getfield (v := .ref (b + 2)) rfl (mS_o hb) rfl ?_
            refine wq_iload_n rfl rfl ?_
            refine wn_iaload (g := sq) rfl (mS_a3 hb) (by omega) (by decide) ?_
            refine wq_stat (a := [.int (nI (sq k))]) (rest := []) rfl rfl rfl rfl rfl ?_
            refine r_M_otherOf (by omega) ?_
            show WP _ _ _ _ 84 [.ref b, .int (nI k), .int (nI w), .int (nI ((sq k) / 100))] [.int (nI ((sq k) % 10))] (mR b pre 0 tl un kn ap wb tx sq pa ke to wg we th pcs brs be po ro kf bg en)
            refine wq_iret rfl trivial ?_
            rw [← q4 (by omega)]
            exact fin_ (A' := (tl, ta, (rn, ra), un, ua, kn, ka)) hQ (by unfold f_told; (try dsimp only); rw [if_neg (by omega), if_neg (by omega), if_neg (by omega), if_neg (by rw [q2]; omega)]) ⟨_, _, _, _, _, _, _, _, _, _, _, _, _, _, _, _, _, _, _, rfl, hI0, hSB⟩
          · skip
            refine wq_bipush (v := (-4)) rfl (by decide) ?_
            refine wq_goto rfl ?_
            refine wq_iret rfl trivial ?_
            exact fin_ (A' := (tl, ta, (rn, ra), un, ua, kn, ka)) hQ (by unfold f_told; (try dsimp only); rw [if_neg (by omega), if_neg (by omega), if_neg (by omega), if_pos (by rw [q2]; omega)]) ⟨_, _, _, _, _, _, _, _, _, _, _, _, _, _, _, _, _, _, _, rfl, hI0, hSB⟩
        · skip
          refine wq_aload_n rfl rfl ?_
          refine wq_getfield (v := .ref (b + 2)) rfl (mS_o hb) rfl ?_
          refine wq_iload_n rfl rfl ?_
          refine wn_iaload (g := sq) rfl (mS_a3 hb) (by omega) (by decide) ?_
          refine wq_stat (a := [.int (nI (sq k))]) (rest := []) rfl rfl rfl rfl rfl ?_
          refine r_M_oneOf (by omega) ?_
          show WP _ _ _ _ 62 [.ref b, .int (nI k), .int (nI w), .int (nI ((sq k) / 100))] [.int (nI ((sq k) / 10 % 10))] (mR b pre 0 tl un kn ap wb tx sq pa ke to wg we th pcs brs be po ro kf bg en)
          refine wq_goto rfl ?_
          refine wq_iret rfl trivial ?_
          rw [← q3]
          exact fin_ (A' := (tl, ta, (rn, ra), un, ua, kn, ka)) hQ (by unfold f_told; (try dsimp only); (repeat first | rw [if_pos (by omega)] | rw [if_neg (by omega)]); try rfl) ⟨_, _, _, _, _, _, _, _, _, _, _, _, _, _, _, _, _, _, _, rfl, hI0, hSB⟩
      · skip
        refine wq_iload_n rfl rfl ?_
        refine wq_goto rfl ?_
        refine wq_iret rfl trivial ?_
        rw [← q2]
        exact fin_ (A' := (tl, ta, (rn, ra), un, ua, kn, ka)) hQ (by unfold f_told; (try dsimp only); (repeat first | rw [if_pos (by omega)] | rw [if_neg (by omega)]); try rfl) ⟨_, _, _, _, _, _, _, _, _, _, _, _, _, _, _, _, _, _, _, rfl, hI0, hSB⟩
    · skip
      show WP _ _ _ _ 25 [.ref b, .int (nI k), .int (nI w), .long 0] [.int (nI 0)] (mR b pre 0 tl un kn ap wb tx sq pa ke to wg we th pcs brs be po ro kf bg en)
      refine wq_if_ne rfl (fun c => absurd c (by decide)) (fun _ => ?_)
      refine wq_iconst (v := (-1)) rfl (by decide) ?_
      refine wq_iret rfl trivial ?_
      exact fin_ (A' := (tl, ta, (rn, ra), un, ua, kn, ka)) hQ (by unfold f_told; (try dsimp only); (repeat first | rw [if_pos (by omega)] | rw [if_neg (by omega)]); try rfl) ⟨_, _, _, _, _, _, _, _, _, _, _, _, _, _, _, _, _, _, _, rfl, hI0, hSB⟩
  · skip
    show WP _ _ _ _ 16 [.ref b, .int (nI k), .int (nI w), .long 0] [.int (nI 0)] (mR b pre 0 tl un kn ap wb tx sq pa ke to wg we th pcs brs be po ro kf bg en)
    refine wq_if_eq rfl (fun _ => ?_) (fun c => absurd c (by decide))
    refine wq_iconst (v := (-1)) rfl (by decide) ?_
    refine wq_iret rfl trivial ?_
    exact fin_ (A' := (tl, ta, (rn, ra), un, ua, kn, ka)) hQ (by unfold f_told; (try dsimp only); (repeat first | rw [if_pos (by omega)] | rw [if_neg (by omega)]); try rfl) ⟨_, _, _, _, _, _, _, _, _, _, _, _, _, _, _, _, _, _, _, rfl, hI0, hSB⟩
theorem R_told_neg {d b : Nat} {pre : mH} {A : AS} {h : mH} {Q : Option Value → mH → Prop} (hb : pre.length = b) (hR : RIA b pre A h) {v1 v2 : Int32} (hneg : v1 < 0 ∨ v2 < 0) (hQ : ∀ h', RIA b pre A h' → Q (some (.int (-1))) h') : Rn mprog (d + 7) n_M_told [.ref b, .int v1, .int v2] h Q := by
  obtain ⟨tl, ta, ⟨rn, ra⟩, un, ua, kn, ka⟩ := A
  obtain ⟨tn, ap, wb, tx, sq, pa, ke, to, wg, we, th, pcs, brs, be, po, ro, kf, bg, en, rfl, hI, hSB⟩ := hR
  have hI0 := hI
  obtain ⟨hl, htx, hV, hRR, hu, hU, hk, hK⟩ := hI
  dsimp only at hl htx hV hRR hu hU hk hK
  have hs0 : sq 0 = rn := hRR.1
  have hrn : rn ≤ 40 := hV.1
  refine Rn.in rfl rfl rfl ?_
  show WP _ _ _ _ 0 [.ref b, .int v1, .int v2, .long 0] [] (mR b pre tn tl un kn ap wb tx sq pa ke to wg we th pcs brs be po ro kf bg en)
  refine wq_aload_n rfl rfl ?_
  refine wq_iconst (v := nI 0) rfl (by decide) ?_
  refine wq_putfield (h' := mR b pre 0 tl un kn ap wb tx sq pa ke to wg we th pcs brs be po ro kf bg en) rfl (mS_o hb) rfl (mS_s0 hb) ?_
  refine wq_iload_n rfl rfl ?_
  refine wq_iconst (v := nI 1) rfl (by decide) ?_
  refine wq_aload_n rfl rfl ?_
  refine wq_getfield (v := .ref (b + 2)) rfl (mS_o hb) rfl ?_
  refine wq_iconst (v := nI 0) rfl (by decide) ?_
  refine wn_iaload (g := sq) rfl (mS_a3 hb) (by omega) (by decide) ?_
  refine wq_stat (a := [.int v1, .int (nI 1), .int (nI (sq 0))]) (rest := []) rfl rfl rfl rfl rfl ?_
  refine r_M_in (fun c13 => ?_) (fun c13 => ?_)
  · skip
    show WP _ _ _ _ 16 [.ref b, .int v1, .int v2, .long 0] [.int (nI 1)] (mR b pre 0 tl un kn ap wb tx sq pa ke to wg we th pcs brs be po ro kf bg en)
    refine wq_if_eq rfl (fun c => absurd c (by decide)) (fun _ => ?_)
    refine wq_iload_n rfl rfl ?_
    refine wq_iconst (v := nI 0) rfl (by decide) ?_
    refine wq_iconst (v := nI 2) rfl (by decide) ?_
    refine wq_stat (a := [.int v2, .int (nI 0), .int (nI 2)]) (rest := []) rfl rfl rfl rfl rfl ?_
    refine r_M_in (fun c22 => absurd c22 (fun z => hneg.elim (fun q => nI_ngl q (by decide) c13.1) (fun h0 => (fun q => nI_ngl q (by decide) z.1) h0))) (fun c22 => ?_)
    show WP _ _ _ _ 25 [.ref b, .int v1, .int v2, .long 0] [.int (nI 0)] (mR b pre 0 tl un kn ap wb tx sq pa ke to wg we th pcs brs be po ro kf bg en)
    refine wq_if_ne rfl (fun c => absurd c (by decide)) (fun _ => ?_)
    refine wq_iconst (v := (-1)) rfl (by decide) ?_
    refine wq_iret rfl trivial ?_
    exact hQ _ ⟨_, _, _, _, _, _, _, _, _, _, _, _, _, _, _, _, _, _, _, rfl, hI0, hSB⟩
  · skip
    show WP _ _ _ _ 16 [.ref b, .int v1, .int v2, .long 0] [.int (nI 0)] (mR b pre 0 tl un kn ap wb tx sq pa ke to wg we th pcs brs be po ro kf bg en)
    refine wq_if_eq rfl (fun _ => ?_) (fun c => absurd c (by decide))
    refine wq_iconst (v := (-1)) rfl (by decide) ?_
    refine wq_iret rfl trivial ?_
    exact hQ _ ⟨_, _, _, _, _, _, _, _, _, _, _, _, _, _, _, _, _, _, _, rfl, hI0, hSB⟩
theorem R_graph {d b : Nat} {pre : mH} {A : AS} {h : mH} {Q : Option Value → mH → Prop} (hb : pre.length = b) (hR : RIA b pre A h) {k : Nat} (hk0 : k < 2 ^ 31) {w : Nat} (hw0 : w < 2 ^ 31) (hQ : ∀ h', RIA b pre (f_graph A k w).2 h' → Q (some (.int (f_graph A k w).1)) h') : Rn mprog (d + 7) n_M_graph [.ref b, .int (nI k), .int (nI w)] h Q := by
  obtain ⟨tl, ta, ⟨rn, ra⟩, un, ua, kn, ka⟩ := A
  obtain ⟨tn, ap, wb, tx, sq, pa, ke, to, wg, we, th, pcs, brs, be, po, ro, kf, bg, en, rfl, hI, hSB⟩ := hR
  have hI0 := hI
  obtain ⟨hl, htx, hV, hRR, hu, hU, hk, hK⟩ := hI
  dsimp only at hl htx hV hRR hu hU hk hK
  have hs0 : sq 0 = rn := hRR.1
  have hrn : rn ≤ 40 := hV.1
  refine Rn.in rfl rfl rfl ?_
  show WP _ _ _ _ 0 [.ref b, .int (nI k), .int (nI w), .long 0] [] (mR b pre tn tl un kn ap wb tx sq pa ke to wg we th pcs brs be po ro kf bg en)
  refine wq_aload_n rfl rfl ?_
  refine wq_iconst (v := nI 0) rfl (by decide) ?_
  refine wq_putfield (h' := mR b pre 0 tl un kn ap wb tx sq pa ke to wg we th pcs brs be po ro kf bg en) rfl (mS_o hb) rfl (mS_s0 hb) ?_
  refine wq_iload_n rfl rfl ?_
  refine wq_iconst (v := nI 0) rfl (by decide) ?_
  refine wq_aload_n rfl rfl ?_
  refine wq_getfield (v := .ref (b + 2)) rfl (mS_o hb) rfl ?_
  refine wq_iconst (v := nI 0) rfl (by decide) ?_
  refine wn_iaload (g := sq) rfl (mS_a3 hb) (by omega) (by decide) ?_
  refine wq_stat (a := [.int (nI k), .int (nI 0), .int (nI (sq 0))]) (rest := []) rfl rfl rfl rfl rfl ?_
  refine r_M_inN (by omega) (by omega) (by omega) (fun c13 => ?_) (fun c13 => ?_)
  · skip
    show WP _ _ _ _ 16 [.ref b, .int (nI k), .int (nI w), .long 0] [.int (nI 1)] (mR b pre 0 tl un kn ap wb tx sq pa ke to wg we th pcs brs be po ro kf bg en)
    refine wq_if_eq rfl (fun c => absurd c (by decide)) (fun _ => ?_)
    refine wq_iload_n rfl rfl ?_
    refine wq_iconst (v := nI 0) rfl (by decide) ?_
    refine wq_iconst (v := nI 3) rfl (by decide) ?_
    refine wq_stat (a := [.int (nI w), .int (nI 0), .int (nI 3)]) (rest := []) rfl rfl rfl rfl rfl ?_
    refine r_M_inN (by omega) (by omega) (by omega) (fun c22 => ?_) (fun c22 => ?_)
    · skip
      show WP _ _ _ _ 25 [.ref b, .int (nI k), .int (nI w), .long 0] [.int (nI 1)] (mR b pre 0 tl un kn ap wb tx sq pa ke to wg we th pcs brs be po ro kf bg en)
      refine wq_if_ne rfl (fun _ => ?_) (fun c => absurd c (by decide))
      refine wq_aload_n rfl rfl ?_
      refine wq_iload_n rfl rfl ?_
      refine wq_virt (b := b) (a := [.int (nI k)]) (rest := []) rfl rfl rfl rfl rfl (mS_o hb) ?_
      refine r_R_runs hb hSB hV hRR (k := k) (by omega) ?_
      intro th1 pcs1 brs1 be1 po1 ro1 kf1 bg1 en1 hS hSB1
      have hTV := stP (k := k) hV (by omega)
      have hth1 : th1 < 512 := by rw [hS.1]; exact hTV.1.1
      have hbe1 : ∀ p, p < 9 → be1 p < 512 := fun p hp => by rw [hS.2.1 p hp]; exact hTV.1.2.1.1 p hp
      have hpc1 : pcs1 < 512 := hS.2.2.1.1
      have hpo1 : ∀ p, p < 9 → po1 p < 9 := hS.2.2.1.2.1
      have hed := sim_ed hTV hS.2.1
      have hnp := npT_eq hTV.1.2.1 hS.2.2.1
      show WP _ _ _ _ 35 [.ref b, .int (nI k), .int (nI w), .long 0] [.int (nI 1)] (mR b pre 0 tl un kn ap wb tx sq pa ke to wg we th1 pcs1 brs1 be1 po1 ro1 kf1 bg1 en1)
      refine wq_pop rfl rfl ?_
      refine wq_aload_n rfl rfl ?_
      refine wq_getfield (v := .int (nI pcs1)) rfl (mS_o hb) rfl ?_
      refine wq_stat (a := [.int (nI pcs1)]) (rest := []) rfl rfl rfl rfl rfl ?_
      refine r_M_bits (by omega) ?_
      show WP _ _ _ _ 43 [.ref b, .int (nI k), .int (nI w), .long 0] [.int (nI (popc pcs1 9))] (mR b pre 0 tl un kn ap wb tx sq pa ke to wg we th1 pcs1 brs1 be1 po1 ro1 kf1 bg1 en1)
      refine wq_istore_n (lv' := [.ref b, .int (nI k), .int (nI w), .int (nI (popc pcs1 9))]) rfl rfl rfl ?_
      refine wq_iload_n rfl rfl ?_
      refine wn_if_ne rfl (by omega) (fun c45 => ?_) (fun c45 => ?_)
      · skip
        refine wq_iload_n rfl rfl ?_
        refine wq_iconst (v := nI 1) rfl (by decide) ?_
        refine wn_ic_ne rfl (by omega) (by omega) (fun c57 => ?_) (fun c57 => ?_)
        · skip
          refine wq_iload_n rfl rfl ?_
          refine wq_iconst (v := nI 2) rfl (by decide) ?_
          refine wn_ic_ne rfl (by omega) (by omega) (fun c69 => ?_) (fun c69 => ?_)
          · skip
            refine wq_aload_n rfl rfl ?_
            refine wq_virt (b := b) (a := []) (rest := []) rfl rfl rfl rfl rfl (mS_o hb) ?_
            refine r_M_edges hb hbe1 ?_
            show WP _ _ _ _ 80 [.ref b, .int (nI k), .int (nI w), .int (nI (popc pcs1 9))] [.int (nI (esum be1 9 / 2))] (mR b pre 0 tl un kn ap wb tx sq pa ke to wg we th1 pcs1 brs1 be1 po1 ro1 kf1 bg1 en1)
            refine wq_aload_n rfl rfl ?_
            refine wq_getfield (v := .int (nI th1)) rfl (mS_o hb) rfl ?_
            refine wq_stat (a := [.int (nI th1)]) (rest := [.int (nI (esum be1 9 / 2))]) rfl rfl rfl rfl rfl ?_
            refine r_M_bits (by omega) ?_
            show WP _ _ _ _ 87 [.ref b, .int (nI k), .int (nI w), .int (nI (popc pcs1 9))] [.int (nI (popc th1 9)), .int (nI (esum be1 9 / 2))] (mR b pre 0 tl un kn ap wb tx sq pa ke to wg we th1 pcs1 brs1 be1 po1 ro1 kf1 bg1 en1)
            refine wq_isub (v := (nI (esum be1 9 / 2)) - (nI (popc th1 9))) rfl rfl ?_
            refine wq_iload_n rfl rfl ?_
            refine wq_iadd (v := ((nI (esum be1 9 / 2)) - (nI (popc th1 9))) + (nI (popc pcs1 9))) rfl rfl ?_
            refine wq_iret rfl trivial ?_
            rw [hed]
            rw [hnp]
            rw [hS.1]
            exact fin_ (A' := (tl, ta, (rn, ra), un, ua, kn, ka)) hQ (by unfold f_graph; (try dsimp only); (repeat first | rw [if_pos (by omega)] | rw [if_neg (by omega)]); try rfl) ⟨_, _, _, _, _, _, _, _, _, _, _, _, _, _, _, _, _, _, _, rfl, hI0, hSB1⟩
          · skip
            refine wq_iload_n rfl rfl ?_
            refine wq_goto rfl ?_
            refine wq_iret rfl trivial ?_
            rw [hnp]
            exact fin_ (A' := (tl, ta, (rn, ra), un, ua, kn, ka)) hQ (by unfold f_graph; (try dsimp only); (repeat first | rw [if_pos (by omega)] | rw [if_neg (by omega)]); try rfl) ⟨_, _, _, _, _, _, _, _, _, _, _, _, _, _, _, _, _, _, _, rfl, hI0, hSB1⟩
        · skip
          refine wq_aload_n rfl rfl ?_
          refine wq_virt (b := b) (a := []) (rest := []) rfl rfl rfl rfl rfl (mS_o hb) ?_
          refine r_M_edges hb hbe1 ?_
          show WP _ _ _ _ 64 [.ref b, .int (nI k), .int (nI w), .int (nI (popc pcs1 9))] [.int (nI (esum be1 9 / 2))] (mR b pre 0 tl un kn ap wb tx sq pa ke to wg we th1 pcs1 brs1 be1 po1 ro1 kf1 bg1 en1)
          refine wq_goto rfl ?_
          refine wq_iret rfl trivial ?_
          rw [hed]
          exact fin_ (A' := (tl, ta, (rn, ra), un, ua, kn, ka)) hQ (by unfold f_graph; (try dsimp only); (repeat first | rw [if_pos (by omega)] | rw [if_neg (by omega)]); try rfl) ⟨_, _, _, _, _, _, _, _, _, _, _, _, _, _, _, _, _, _, _, rfl, hI0, hSB1⟩
      · skip
        refine wq_aload_n rfl rfl ?_
        refine wq_getfield (v := .int (nI th1)) rfl (mS_o hb) rfl ?_
        refine wq_goto rfl ?_
        refine wq_iret rfl trivial ?_
        rw [hS.1]
        exact fin_ (A' := (tl, ta, (rn, ra), un, ua, kn, ka)) hQ (by unfold f_graph; (try dsimp only); (repeat first | rw [if_pos (by omega)] | rw [if_neg (by omega)]); try rfl) ⟨_, _, _, _, _, _, _, _, _, _, _, _, _, _, _, _, _, _, _, rfl, hI0, hSB1⟩
    · skip
      show WP _ _ _ _ 25 [.ref b, .int (nI k), .int (nI w), .long 0] [.int (nI 0)] (mR b pre 0 tl un kn ap wb tx sq pa ke to wg we th pcs brs be po ro kf bg en)
      refine wq_if_ne rfl (fun c => absurd c (by decide)) (fun _ => ?_)
      refine wq_iconst (v := (-1)) rfl (by decide) ?_
      refine wq_iret rfl trivial ?_
      exact fin_ (A' := (tl, ta, (rn, ra), un, ua, kn, ka)) hQ (by unfold f_graph; (try dsimp only); (repeat first | rw [if_pos (by omega)] | rw [if_neg (by omega)]); try rfl) ⟨_, _, _, _, _, _, _, _, _, _, _, _, _, _, _, _, _, _, _, rfl, hI0, hSB⟩
  · skip
    show WP _ _ _ _ 16 [.ref b, .int (nI k), .int (nI w), .long 0] [.int (nI 0)] (mR b pre 0 tl un kn ap wb tx sq pa ke to wg we th pcs brs be po ro kf bg en)
    refine wq_if_eq rfl (fun _ => ?_) (fun c => absurd c (by decide))
    refine wq_iconst (v := (-1)) rfl (by decide) ?_
    refine wq_iret rfl trivial ?_
    exact fin_ (A' := (tl, ta, (rn, ra), un, ua, kn, ka)) hQ (by unfold f_graph; (try dsimp only); (repeat first | rw [if_pos (by omega)] | rw [if_neg (by omega)]); try rfl) ⟨_, _, _, _, _, _, _, _, _, _, _, _, _, _, _, _, _, _, _, rfl, hI0, hSB⟩
theorem R_graph_neg {d b : Nat} {pre : mH} {A : AS} {h : mH} {Q : Option Value → mH → Prop} (hb : pre.length = b) (hR : RIA b pre A h) {v1 v2 : Int32} (hneg : v1 < 0 ∨ v2 < 0) (hQ : ∀ h', RIA b pre A h' → Q (some (.int (-1))) h') : Rn mprog (d + 7) n_M_graph [.ref b, .int v1, .int v2] h Q := by
  obtain ⟨tl, ta, ⟨rn, ra⟩, un, ua, kn, ka⟩ := A
  obtain ⟨tn, ap, wb, tx, sq, pa, ke, to, wg, we, th, pcs, brs, be, po, ro, kf, bg, en, rfl, hI, hSB⟩ := hR
  have hI0 := hI
  obtain ⟨hl, htx, hV, hRR, hu, hU, hk, hK⟩ := hI
  dsimp only at hl htx hV hRR hu hU hk hK
  have hs0 : sq 0 = rn := hRR.1
  have hrn : rn ≤ 40 := hV.1
  refine Rn.in rfl rfl rfl ?_
  show WP _ _ _ _ 0 [.ref b, .int v1, .int v2, .long 0] [] (mR b pre tn tl un kn ap wb tx sq pa ke to wg we th pcs brs be po ro kf bg en)
  refine wq_aload_n rfl rfl ?_
  refine wq_iconst (v := nI 0) rfl (by decide) ?_
  refine wq_putfield (h' := mR b pre 0 tl un kn ap wb tx sq pa ke to wg we th pcs brs be po ro kf bg en) rfl (mS_o hb) rfl (mS_s0 hb) ?_
  refine wq_iload_n rfl rfl ?_
  refine wq_iconst (v := nI 0) rfl (by decide) ?_
  refine wq_aload_n rfl rfl ?_
  refine wq_getfield (v := .ref (b + 2)) rfl (mS_o hb) rfl ?_
  refine wq_iconst (v := nI 0) rfl (by decide) ?_
  refine wn_iaload (g := sq) rfl (mS_a3 hb) (by omega) (by decide) ?_
  refine wq_stat (a := [.int v1, .int (nI 0), .int (nI (sq 0))]) (rest := []) rfl rfl rfl rfl rfl ?_
  refine r_M_in (fun c13 => ?_) (fun c13 => ?_)
  · skip
    show WP _ _ _ _ 16 [.ref b, .int v1, .int v2, .long 0] [.int (nI 1)] (mR b pre 0 tl un kn ap wb tx sq pa ke to wg we th pcs brs be po ro kf bg en)
    refine wq_if_eq rfl (fun c => absurd c (by decide)) (fun _ => ?_)
    refine wq_iload_n rfl rfl ?_
    refine wq_iconst (v := nI 0) rfl (by decide) ?_
    refine wq_iconst (v := nI 3) rfl (by decide) ?_
    refine wq_stat (a := [.int v2, .int (nI 0), .int (nI 3)]) (rest := []) rfl rfl rfl rfl rfl ?_
    refine r_M_in (fun c22 => absurd c22 (fun z => hneg.elim (fun q => nI_ngl q (by decide) c13.1) (fun h0 => (fun q => nI_ngl q (by decide) z.1) h0))) (fun c22 => ?_)
    show WP _ _ _ _ 25 [.ref b, .int v1, .int v2, .long 0] [.int (nI 0)] (mR b pre 0 tl un kn ap wb tx sq pa ke to wg we th pcs brs be po ro kf bg en)
    refine wq_if_ne rfl (fun c => absurd c (by decide)) (fun _ => ?_)
    refine wq_iconst (v := (-1)) rfl (by decide) ?_
    refine wq_iret rfl trivial ?_
    exact hQ _ ⟨_, _, _, _, _, _, _, _, _, _, _, _, _, _, _, _, _, _, _, rfl, hI0, hSB⟩
  · skip
    show WP _ _ _ _ 16 [.ref b, .int v1, .int v2, .long 0] [.int (nI 0)] (mR b pre 0 tl un kn ap wb tx sq pa ke to wg we th pcs brs be po ro kf bg en)
    refine wq_if_eq rfl (fun _ => ?_) (fun c => absurd c (by decide))
    refine wq_iconst (v := (-1)) rfl (by decide) ?_
    refine wq_iret rfl trivial ?_
    exact hQ _ ⟨_, _, _, _, _, _, _, _, _, _, _, _, _, _, _, _, _, _, _, rfl, hI0, hSB⟩
theorem R_piece {d b : Nat} {pre : mH} {A : AS} {h : mH} {Q : Option Value → mH → Prop} (hb : pre.length = b) (hR : RIA b pre A h) {k : Nat} (hk0 : k < 2 ^ 31) {p : Nat} (hp0 : p < 2 ^ 31) (hQ : ∀ h', RIA b pre (f_piece A k p).2 h' → Q (some (.int (f_piece A k p).1)) h') : Rn mprog (d + 7) n_M_piece [.ref b, .int (nI k), .int (nI p)] h Q := by
  obtain ⟨tl, ta, ⟨rn, ra⟩, un, ua, kn, ka⟩ := A
  obtain ⟨tn, ap, wb, tx, sq, pa, ke, to, wg, we, th, pcs, brs, be, po, ro, kf, bg, en, rfl, hI, hSB⟩ := hR
  have hI0 := hI
  obtain ⟨hl, htx, hV, hRR, hu, hU, hk, hK⟩ := hI
  dsimp only at hl htx hV hRR hu hU hk hK
  have hs0 : sq 0 = rn := hRR.1
  have hrn : rn ≤ 40 := hV.1
  refine Rn.in rfl rfl rfl ?_
  show WP _ _ _ _ 0 [.ref b, .int (nI k), .int (nI p)] [] (mR b pre tn tl un kn ap wb tx sq pa ke to wg we th pcs brs be po ro kf bg en)
  refine wq_aload_n rfl rfl ?_
  refine wq_iconst (v := nI 0) rfl (by decide) ?_
  refine wq_putfield (h' := mR b pre 0 tl un kn ap wb tx sq pa ke to wg we th pcs brs be po ro kf bg en) rfl (mS_o hb) rfl (mS_s0 hb) ?_
  refine wq_iload_n rfl rfl ?_
  refine wq_iconst (v := nI 0) rfl (by decide) ?_
  refine wq_aload_n rfl rfl ?_
  refine wq_getfield (v := .ref (b + 2)) rfl (mS_o hb) rfl ?_
  refine wq_iconst (v := nI 0) rfl (by decide) ?_
  refine wn_iaload (g := sq) rfl (mS_a3 hb) (by omega) (by decide) ?_
  refine wq_stat (a := [.int (nI k), .int (nI 0), .int (nI (sq 0))]) (rest := []) rfl rfl rfl rfl rfl ?_
  refine r_M_inN (by omega) (by omega) (by omega) (fun c13 => ?_) (fun c13 => ?_)
  · skip
    show WP _ _ _ _ 16 [.ref b, .int (nI k), .int (nI p)] [.int (nI 1)] (mR b pre 0 tl un kn ap wb tx sq pa ke to wg we th pcs brs be po ro kf bg en)
    refine wq_if_eq rfl (fun c => absurd c (by decide)) (fun _ => ?_)
    refine wq_iload_n rfl rfl ?_
    refine wq_iconst (v := nI 0) rfl (by decide) ?_
    refine wq_bipush (v := nI 8) rfl (by decide) ?_
    refine wq_stat (a := [.int (nI p), .int (nI 0), .int (nI 8)]) (rest := []) rfl rfl rfl rfl rfl ?_
    refine r_M_inN (by omega) (by omega) (by omega) (fun c23 => ?_) (fun c23 => ?_)
    · skip
      show WP _ _ _ _ 26 [.ref b, .int (nI k), .int (nI p)] [.int (nI 1)] (mR b pre 0 tl un kn ap wb tx sq pa ke to wg we th pcs brs be po ro kf bg en)
      refine wq_if_ne rfl (fun _ => ?_) (fun c => absurd c (by decide))
      refine wq_aload_n rfl rfl ?_
      refine wq_iload_n rfl rfl ?_
      refine wq_virt (b := b) (a := [.int (nI k)]) (rest := []) rfl rfl rfl rfl rfl (mS_o hb) ?_
      refine r_R_runs hb hSB hV hRR (k := k) (by omega) ?_
      intro th1 pcs1 brs1 be1 po1 ro1 kf1 bg1 en1 hS hSB1
      have hTV := stP (k := k) hV (by omega)
      have hth1 : th1 < 512 := by rw [hS.1]; exact hTV.1.1
      have hbe1 : ∀ p, p < 9 → be1 p < 512 := fun p hp => by rw [hS.2.1 p hp]; exact hTV.1.2.1.1 p hp
      have hpc1 : pcs1 < 512 := hS.2.2.1.1
      have hpo1 : ∀ p, p < 9 → po1 p < 9 := hS.2.2.1.2.1
      have hed := sim_ed hTV hS.2.1
      have hnp := npT_eq hTV.1.2.1 hS.2.2.1
      show WP _ _ _ _ 36 [.ref b, .int (nI k), .int (nI p)] [.int (nI 1)] (mR b pre 0 tl un kn ap wb tx sq pa ke to wg we th1 pcs1 brs1 be1 po1 ro1 kf1 bg1 en1)
      refine wq_pop rfl rfl ?_
      refine wq_aload_n rfl rfl ?_
      refine wq_getfield (v := .int (nI th1)) rfl (mS_o hb) rfl ?_
      refine wq_iload_n rfl rfl ?_
      refine wq_stat (a := [.int (nI th1), .int (nI p)]) (rest := []) rfl rfl rfl rfl rfl ?_
      refine r_M_has (by omega) (by omega) (fun c42 => ?_) (fun c42 => ?_)
      · skip
        show WP _ _ _ _ 45 [.ref b, .int (nI k), .int (nI p)] [.int (nI 1)] (mR b pre 0 tl un kn ap wb tx sq pa ke to wg we th1 pcs1 brs1 be1 po1 ro1 kf1 bg1 en1)
        refine wq_if_eq rfl (fun c => absurd c (by decide)) (fun _ => ?_)
        refine wq_aload_n rfl rfl ?_
        refine wq_aload_n rfl rfl ?_
        refine wq_getfield (v := .ref (b + 6)) rfl (mS_o hb) rfl ?_
        refine wq_iload_n rfl rfl ?_
        refine wn_iaload (g := po1) rfl (mS_a10 hb) (by omega) (by decide) ?_
        refine wq_virt (b := b) (a := [.int (nI (po1 p))]) (rest := []) rfl rfl rfl rfl rfl (mS_o hb) ?_
        refine r_S_lowest hb (p0 := p) hth1 hpo1 (by omega) c42 rfl (fun q hq1 hq2 hq3 hq4 => ?_)
        show WP _ _ _ _ 58 [.ref b, .int (nI k), .int (nI p)] [.int (nI q)] (mR b pre 0 tl un kn ap wb tx sq pa ke to wg we th1 pcs1 brs1 be1 po1 ro1 kf1 bg1 en1)
        refine wq_goto rfl ?_
        refine wq_iret rfl trivial ?_
        have hbit : (stR ra k).1.testBit p = true := by rw [← hS.1]; exact c42
        have hql : q = low9 (pOf (stR ra k).2.2.1 p) := low_lab hTV.1.2.1 hS.2.2.1 (fun t ht => cn_pts hTV (by omega) hbit ht) (by omega) hbit hq1 (by rw [← hS.1]; exact hq2) hq3 (fun j hj => by rw [← hS.1]; exact hq4 j hj)
        rw [hql]
        exact fin_ (A' := (tl, ta, (rn, ra), un, ua, kn, ka)) hQ (by unfold f_piece; (try dsimp only); (repeat first | rw [if_pos (by omega)] | rw [if_neg (by omega)] | rw [if_pos hbit] | rw [if_neg (by rw [hbit]; decide)]); try rfl) ⟨_, _, _, _, _, _, _, _, _, _, _, _, _, _, _, _, _, _, _, rfl, hI0, hSB1⟩
      · skip
        show WP _ _ _ _ 45 [.ref b, .int (nI k), .int (nI p)] [.int (nI 0)] (mR b pre 0 tl un kn ap wb tx sq pa ke to wg we th1 pcs1 brs1 be1 po1 ro1 kf1 bg1 en1)
        refine wq_if_eq rfl (fun _ => ?_) (fun c => absurd c (by decide))
        refine wq_bipush (v := (-4)) rfl (by decide) ?_
        refine wq_iret rfl trivial ?_
        have hbit : (stR ra k).1.testBit p = false := by rw [← hS.1]; exact c42
        exact fin_ (A' := (tl, ta, (rn, ra), un, ua, kn, ka)) hQ (by unfold f_piece; (try dsimp only); (repeat first | rw [if_pos (by omega)] | rw [if_neg (by omega)] | rw [if_pos hbit] | rw [if_neg (by rw [hbit]; decide)]); try rfl) ⟨_, _, _, _, _, _, _, _, _, _, _, _, _, _, _, _, _, _, _, rfl, hI0, hSB1⟩
    · skip
      show WP _ _ _ _ 26 [.ref b, .int (nI k), .int (nI p)] [.int (nI 0)] (mR b pre 0 tl un kn ap wb tx sq pa ke to wg we th pcs brs be po ro kf bg en)
      refine wq_if_ne rfl (fun c => absurd c (by decide)) (fun _ => ?_)
      refine wq_iconst (v := (-1)) rfl (by decide) ?_
      refine wq_iret rfl trivial ?_
      exact fin_ (A' := (tl, ta, (rn, ra), un, ua, kn, ka)) hQ (by unfold f_piece; (try dsimp only); (repeat first | rw [if_pos (by omega)] | rw [if_neg (by omega)]); try rfl) ⟨_, _, _, _, _, _, _, _, _, _, _, _, _, _, _, _, _, _, _, rfl, hI0, hSB⟩
  · skip
    show WP _ _ _ _ 16 [.ref b, .int (nI k), .int (nI p)] [.int (nI 0)] (mR b pre 0 tl un kn ap wb tx sq pa ke to wg we th pcs brs be po ro kf bg en)
    refine wq_if_eq rfl (fun _ => ?_) (fun c => absurd c (by decide))
    refine wq_iconst (v := (-1)) rfl (by decide) ?_
    refine wq_iret rfl trivial ?_
    exact fin_ (A' := (tl, ta, (rn, ra), un, ua, kn, ka)) hQ (by unfold f_piece; (try dsimp only); (repeat first | rw [if_pos (by omega)] | rw [if_neg (by omega)]); try rfl) ⟨_, _, _, _, _, _, _, _, _, _, _, _, _, _, _, _, _, _, _, rfl, hI0, hSB⟩
theorem R_piece_neg {d b : Nat} {pre : mH} {A : AS} {h : mH} {Q : Option Value → mH → Prop} (hb : pre.length = b) (hR : RIA b pre A h) {v1 v2 : Int32} (hneg : v1 < 0 ∨ v2 < 0) (hQ : ∀ h', RIA b pre A h' → Q (some (.int (-1))) h') : Rn mprog (d + 7) n_M_piece [.ref b, .int v1, .int v2] h Q := by
  obtain ⟨tl, ta, ⟨rn, ra⟩, un, ua, kn, ka⟩ := A
  obtain ⟨tn, ap, wb, tx, sq, pa, ke, to, wg, we, th, pcs, brs, be, po, ro, kf, bg, en, rfl, hI, hSB⟩ := hR
  have hI0 := hI
  obtain ⟨hl, htx, hV, hRR, hu, hU, hk, hK⟩ := hI
  dsimp only at hl htx hV hRR hu hU hk hK
  have hs0 : sq 0 = rn := hRR.1
  have hrn : rn ≤ 40 := hV.1
  refine Rn.in rfl rfl rfl ?_
  show WP _ _ _ _ 0 [.ref b, .int v1, .int v2] [] (mR b pre tn tl un kn ap wb tx sq pa ke to wg we th pcs brs be po ro kf bg en)
  refine wq_aload_n rfl rfl ?_
  refine wq_iconst (v := nI 0) rfl (by decide) ?_
  refine wq_putfield (h' := mR b pre 0 tl un kn ap wb tx sq pa ke to wg we th pcs brs be po ro kf bg en) rfl (mS_o hb) rfl (mS_s0 hb) ?_
  refine wq_iload_n rfl rfl ?_
  refine wq_iconst (v := nI 0) rfl (by decide) ?_
  refine wq_aload_n rfl rfl ?_
  refine wq_getfield (v := .ref (b + 2)) rfl (mS_o hb) rfl ?_
  refine wq_iconst (v := nI 0) rfl (by decide) ?_
  refine wn_iaload (g := sq) rfl (mS_a3 hb) (by omega) (by decide) ?_
  refine wq_stat (a := [.int v1, .int (nI 0), .int (nI (sq 0))]) (rest := []) rfl rfl rfl rfl rfl ?_
  refine r_M_in (fun c13 => ?_) (fun c13 => ?_)
  · skip
    show WP _ _ _ _ 16 [.ref b, .int v1, .int v2] [.int (nI 1)] (mR b pre 0 tl un kn ap wb tx sq pa ke to wg we th pcs brs be po ro kf bg en)
    refine wq_if_eq rfl (fun c => absurd c (by decide)) (fun _ => ?_)
    refine wq_iload_n rfl rfl ?_
    refine wq_iconst (v := nI 0) rfl (by decide) ?_
    refine wq_bipush (v := nI 8) rfl (by decide) ?_
    refine wq_stat (a := [.int v2, .int (nI 0), .int (nI 8)]) (rest := []) rfl rfl rfl rfl rfl ?_
    refine r_M_in (fun c23 => absurd c23 (fun z => hneg.elim (fun q => nI_ngl q (by decide) c13.1) (fun h0 => (fun q => nI_ngl q (by decide) z.1) h0))) (fun c23 => ?_)
    show WP _ _ _ _ 26 [.ref b, .int v1, .int v2] [.int (nI 0)] (mR b pre 0 tl un kn ap wb tx sq pa ke to wg we th pcs brs be po ro kf bg en)
    refine wq_if_ne rfl (fun c => absurd c (by decide)) (fun _ => ?_)
    refine wq_iconst (v := (-1)) rfl (by decide) ?_
    refine wq_iret rfl trivial ?_
    exact hQ _ ⟨_, _, _, _, _, _, _, _, _, _, _, _, _, _, _, _, _, _, _, rfl, hI0, hSB⟩
  · skip
    show WP _ _ _ _ 16 [.ref b, .int v1, .int v2] [.int (nI 0)] (mR b pre 0 tl un kn ap wb tx sq pa ke to wg we th pcs brs be po ro kf bg en)
    refine wq_if_eq rfl (fun _ => ?_) (fun c => absurd c (by decide))
    refine wq_iconst (v := (-1)) rfl (by decide) ?_
    refine wq_iret rfl trivial ?_
    exact hQ _ ⟨_, _, _, _, _, _, _, _, _, _, _, _, _, _, _, _, _, _, _, rfl, hI0, hSB⟩
theorem R_root {d b : Nat} {pre : mH} {A : AS} {h : mH} {Q : Option Value → mH → Prop} (hb : pre.length = b) (hR : RIA b pre A h) {p : Nat} (hp0 : p < 2 ^ 31) (hQ : ∀ h', RIA b pre (f_root A p).2 h' → Q (some (.int (f_root A p).1)) h') : Rn mprog (d + 7) n_M_root [.ref b, .int (nI p)] h Q := by
  obtain ⟨tl, ta, ⟨rn, ra⟩, un, ua, kn, ka⟩ := A
  obtain ⟨tn, ap, wb, tx, sq, pa, ke, to, wg, we, th, pcs, brs, be, po, ro, kf, bg, en, rfl, hI, hSB⟩ := hR
  have hI0 := hI
  obtain ⟨hl, htx, hV, hRR, hu, hU, hk, hK⟩ := hI
  dsimp only at hl htx hV hRR hu hU hk hK
  have hs0 : sq 0 = rn := hRR.1
  have hrn : rn ≤ 40 := hV.1
  refine Rn.in rfl rfl rfl ?_
  show WP _ _ _ _ 0 [.ref b, .int (nI p)] [] (mR b pre tn tl un kn ap wb tx sq pa ke to wg we th pcs brs be po ro kf bg en)
  refine wq_aload_n rfl rfl ?_
  refine wq_iconst (v := nI 0) rfl (by decide) ?_
  refine wq_putfield (h' := mR b pre 0 tl un kn ap wb tx sq pa ke to wg we th pcs brs be po ro kf bg en) rfl (mS_o hb) rfl (mS_s0 hb) ?_
  refine wq_iload_n rfl rfl ?_
  refine wq_iconst (v := nI 0) rfl (by decide) ?_
  refine wq_bipush (v := nI 8) rfl (by decide) ?_
  refine wq_stat (a := [.int (nI p), .int (nI 0), .int (nI 8)]) (rest := []) rfl rfl rfl rfl rfl ?_
  refine r_M_inN (by omega) (by omega) (by omega) (fun c9 => ?_) (fun c9 => ?_)
  · skip
    show WP _ _ _ _ 12 [.ref b, .int (nI p)] [.int (nI 1)] (mR b pre 0 tl un kn ap wb tx sq pa ke to wg we th pcs brs be po ro kf bg en)
    refine wq_if_ne rfl (fun _ => ?_) (fun c => absurd c (by decide))
    refine wq_aload_n rfl rfl ?_
    refine wq_aload_n rfl rfl ?_
    refine wq_getfield (v := .ref (b + 2)) rfl (mS_o hb) rfl ?_
    refine wq_iconst (v := nI 0) rfl (by decide) ?_
    refine wn_iaload (g := sq) rfl (mS_a3 hb) (by omega) (by decide) ?_
    refine wq_virt (b := b) (a := [.int (nI (sq 0))]) (rest := []) rfl rfl rfl rfl rfl (mS_o hb) ?_
    rw [hs0]
    refine r_R_runs hb hSB hV hRR (k := rn) (by omega) ?_
    intro th1 pcs1 brs1 be1 po1 ro1 kf1 bg1 en1 hS hSB1
    have hTV := stP (k := rn) hV (by omega)
    have hth1 : th1 < 512 := by rw [hS.1]; exact hTV.1.1
    have hbe1 : ∀ p, p < 9 → be1 p < 512 := fun p hp => by rw [hS.2.1 p hp]; exact hTV.1.2.1.1 p hp
    have hpc1 : pcs1 < 512 := hS.2.2.1.1
    have hpo1 : ∀ p, p < 9 → po1 p < 9 := hS.2.2.1.2.1
    have hed := sim_ed hTV hS.2.1
    have hnp := npT_eq hTV.1.2.1 hS.2.2.1
    show WP _ _ _ _ 27 [.ref b, .int (nI p)] [.int (nI 1)] (mR b pre 0 tl un kn ap wb tx sq pa ke to wg we th1 pcs1 brs1 be1 po1 ro1 kf1 bg1 en1)
    refine wq_pop rfl rfl ?_
    refine wq_aload_n rfl rfl ?_
    refine wq_getfield (v := .int (nI th1)) rfl (mS_o hb) rfl ?_
    refine wq_iload_n rfl rfl ?_
    refine wq_stat (a := [.int (nI th1), .int (nI p)]) (rest := []) rfl rfl rfl rfl rfl ?_
    refine r_M_has (by omega) (by omega) (fun c33 => ?_) (fun c33 => ?_)
    · skip
      show WP _ _ _ _ 36 [.ref b, .int (nI p)] [.int (nI 1)] (mR b pre 0 tl un kn ap wb tx sq pa ke to wg we th1 pcs1 brs1 be1 po1 ro1 kf1 bg1 en1)
      refine wq_if_eq rfl (fun c => absurd c (by decide)) (fun _ => ?_)
      refine wq_aload_n rfl rfl ?_
      refine wq_getfield (v := .ref (b + 7)) rfl (mS_o hb) rfl ?_
      refine wq_aload_n rfl rfl ?_
      refine wq_getfield (v := .ref (b + 6)) rfl (mS_o hb) rfl ?_
      refine wq_iload_n rfl rfl ?_
      refine wn_iaload (g := po1) rfl (mS_a10 hb) (by omega) (by decide) ?_
      refine wn_iaload (g := ro1) rfl (mS_a12 hb) (hpo1 p (by omega)) (by decide) ?_
      refine wq_goto rfl ?_
      refine wq_iret rfl trivial ?_
      have hbit : (sT (tl, ta, (rn, ra), un, ua, kn, ka)).1.testBit p = true := by have q := c33; rw [hS.1] at q; exact q
      have e2 : ro1 (po1 p) = (sT (tl, ta, (rn, ra), un, ua, kn, ka)).2.2.2.1 p := hS.2.2.2.1.1 p (by omega) hbit
      rw [e2]
      exact fin_ (A' := (tl, ta, (rn, ra), un, ua, kn, ka)) hQ (by unfold f_root; (try dsimp only); (repeat first | rw [if_pos (by omega)] | rw [if_neg (by omega)] | rw [if_pos hbit] | rw [if_neg (by rw [hbit]; decide)]); try rfl) ⟨_, _, _, _, _, _, _, _, _, _, _, _, _, _, _, _, _, _, _, rfl, hI0, hSB1⟩
    · skip
      show WP _ _ _ _ 36 [.ref b, .int (nI p)] [.int (nI 0)] (mR b pre 0 tl un kn ap wb tx sq pa ke to wg we th1 pcs1 brs1 be1 po1 ro1 kf1 bg1 en1)
      refine wq_if_eq rfl (fun _ => ?_) (fun c => absurd c (by decide))
      refine wq_bipush (v := (-4)) rfl (by decide) ?_
      refine wq_iret rfl trivial ?_
      have hbit : (sT (tl, ta, (rn, ra), un, ua, kn, ka)).1.testBit p = false := by have q := c33; rw [hS.1] at q; exact q
      exact fin_ (A' := (tl, ta, (rn, ra), un, ua, kn, ka)) hQ (by unfold f_root; (try dsimp only); (repeat first | rw [if_pos (by omega)] | rw [if_neg (by omega)] | rw [if_pos hbit] | rw [if_neg (by rw [hbit]; decide)]); try rfl) ⟨_, _, _, _, _, _, _, _, _, _, _, _, _, _, _, _, _, _, _, rfl, hI0, hSB1⟩
  · skip
    show WP _ _ _ _ 12 [.ref b, .int (nI p)] [.int (nI 0)] (mR b pre 0 tl un kn ap wb tx sq pa ke to wg we th pcs brs be po ro kf bg en)
    refine wq_if_ne rfl (fun c => absurd c (by decide)) (fun _ => ?_)
    refine wq_iconst (v := (-1)) rfl (by decide) ?_
    refine wq_iret rfl trivial ?_
    exact fin_ (A' := (tl, ta, (rn, ra), un, ua, kn, ka)) hQ (by unfold f_root; (try dsimp only); (repeat first | rw [if_pos (by omega)] | rw [if_neg (by omega)]); try rfl) ⟨_, _, _, _, _, _, _, _, _, _, _, _, _, _, _, _, _, _, _, rfl, hI0, hSB⟩
theorem R_root_neg {d b : Nat} {pre : mH} {A : AS} {h : mH} {Q : Option Value → mH → Prop} (hb : pre.length = b) (hR : RIA b pre A h) {v1 : Int32} (hneg : v1 < 0) (hQ : ∀ h', RIA b pre A h' → Q (some (.int (-1))) h') : Rn mprog (d + 7) n_M_root [.ref b, .int v1] h Q := by
  obtain ⟨tl, ta, ⟨rn, ra⟩, un, ua, kn, ka⟩ := A
  obtain ⟨tn, ap, wb, tx, sq, pa, ke, to, wg, we, th, pcs, brs, be, po, ro, kf, bg, en, rfl, hI, hSB⟩ := hR
  have hI0 := hI
  obtain ⟨hl, htx, hV, hRR, hu, hU, hk, hK⟩ := hI
  dsimp only at hl htx hV hRR hu hU hk hK
  have hs0 : sq 0 = rn := hRR.1
  have hrn : rn ≤ 40 := hV.1
  refine Rn.in rfl rfl rfl ?_
  show WP _ _ _ _ 0 [.ref b, .int v1] [] (mR b pre tn tl un kn ap wb tx sq pa ke to wg we th pcs brs be po ro kf bg en)
  refine wq_aload_n rfl rfl ?_
  refine wq_iconst (v := nI 0) rfl (by decide) ?_
  refine wq_putfield (h' := mR b pre 0 tl un kn ap wb tx sq pa ke to wg we th pcs brs be po ro kf bg en) rfl (mS_o hb) rfl (mS_s0 hb) ?_
  refine wq_iload_n rfl rfl ?_
  refine wq_iconst (v := nI 0) rfl (by decide) ?_
  refine wq_bipush (v := nI 8) rfl (by decide) ?_
  refine wq_stat (a := [.int v1, .int (nI 0), .int (nI 8)]) (rest := []) rfl rfl rfl rfl rfl ?_
  refine r_M_in (fun c9 => absurd c9 (fun z => (fun q => nI_ngl q (by decide) z.1) hneg)) (fun c9 => ?_)
  show WP _ _ _ _ 12 [.ref b, .int v1] [.int (nI 0)] (mR b pre 0 tl un kn ap wb tx sq pa ke to wg we th pcs brs be po ro kf bg en)
  refine wq_if_ne rfl (fun c => absurd c (by decide)) (fun _ => ?_)
  refine wq_iconst (v := (-1)) rfl (by decide) ?_
  refine wq_iret rfl trivial ?_
  exact hQ _ ⟨_, _, _, _, _, _, _, _, _, _, _, _, _, _, _, _, _, _, _, rfl, hI0, hSB⟩
theorem R_kin {d b : Nat} {pre : mH} {A : AS} {h : mH} {Q : Option Value → mH → Prop} (hb : pre.length = b) (hR : RIA b pre A h) {x : Nat} (hx0 : x < 2 ^ 31) {y : Nat} (hy0 : y < 2 ^ 31) (hQ : ∀ h', RIA b pre (f_kin A x y).2 h' → Q (some (.int (f_kin A x y).1)) h') : Rn mprog (d + 7) n_M_kin [.ref b, .int (nI x), .int (nI y)] h Q := by
  obtain ⟨tl, ta, ⟨rn, ra⟩, un, ua, kn, ka⟩ := A
  obtain ⟨tn, ap, wb, tx, sq, pa, ke, to, wg, we, th, pcs, brs, be, po, ro, kf, bg, en, rfl, hI, hSB⟩ := hR
  have hI0 := hI
  obtain ⟨hl, htx, hV, hRR, hu, hU, hk, hK⟩ := hI
  dsimp only at hl htx hV hRR hu hU hk hK
  have hs0 : sq 0 = rn := hRR.1
  have hrn : rn ≤ 40 := hV.1
  refine Rn.in rfl rfl rfl ?_
  show WP _ _ _ _ 0 [.ref b, .int (nI x), .int (nI y), .long 0] [] (mR b pre tn tl un kn ap wb tx sq pa ke to wg we th pcs brs be po ro kf bg en)
  refine wq_aload_n rfl rfl ?_
  refine wq_iconst (v := nI 0) rfl (by decide) ?_
  refine wq_putfield (h' := mR b pre 0 tl un kn ap wb tx sq pa ke to wg we th pcs brs be po ro kf bg en) rfl (mS_o hb) rfl (mS_s0 hb) ?_
  refine wq_iload_n rfl rfl ?_
  refine wq_iconst (v := nI 0) rfl (by decide) ?_
  refine wq_bipush (v := nI 8) rfl (by decide) ?_
  refine wq_stat (a := [.int (nI x), .int (nI 0), .int (nI 8)]) (rest := []) rfl rfl rfl rfl rfl ?_
  refine r_M_inN (by omega) (by omega) (by omega) (fun c9 => ?_) (fun c9 => ?_)
  · skip
    show WP _ _ _ _ 12 [.ref b, .int (nI x), .int (nI y), .long 0] [.int (nI 1)] (mR b pre 0 tl un kn ap wb tx sq pa ke to wg we th pcs brs be po ro kf bg en)
    refine wq_if_eq rfl (fun c => absurd c (by decide)) (fun _ => ?_)
    refine wq_iload_n rfl rfl ?_
    refine wq_iconst (v := nI 0) rfl (by decide) ?_
    refine wq_bipush (v := nI 8) rfl (by decide) ?_
    refine wq_stat (a := [.int (nI y), .int (nI 0), .int (nI 8)]) (rest := []) rfl rfl rfl rfl rfl ?_
    refine r_M_inN (by omega) (by omega) (by omega) (fun c19 => ?_) (fun c19 => ?_)
    · skip
      show WP _ _ _ _ 22 [.ref b, .int (nI x), .int (nI y), .long 0] [.int (nI 1)] (mR b pre 0 tl un kn ap wb tx sq pa ke to wg we th pcs brs be po ro kf bg en)
      refine wq_if_ne rfl (fun _ => ?_) (fun c => absurd c (by decide))
      refine wq_aload_n rfl rfl ?_
      refine wq_aload_n rfl rfl ?_
      refine wq_getfield (v := .ref (b + 2)) rfl (mS_o hb) rfl ?_
      refine wq_iconst (v := nI 0) rfl (by decide) ?_
      refine wn_iaload (g := sq) rfl (mS_a3 hb) (by omega) (by decide) ?_
      refine wq_virt (b := b) (a := [.int (nI (sq 0))]) (rest := []) rfl rfl rfl rfl rfl (mS_o hb) ?_
      rw [hs0]
      refine r_R_runs hb hSB hV hRR (k := rn) (by omega) ?_
      intro th1 pcs1 brs1 be1 po1 ro1 kf1 bg1 en1 hS hSB1
      have hTV := stP (k := rn) hV (by omega)
      have hth1 : th1 < 512 := by rw [hS.1]; exact hTV.1.1
      have hbe1 : ∀ p, p < 9 → be1 p < 512 := fun p hp => by rw [hS.2.1 p hp]; exact hTV.1.2.1.1 p hp
      have hpc1 : pcs1 < 512 := hS.2.2.1.1
      have hpo1 : ∀ p, p < 9 → po1 p < 9 := hS.2.2.1.2.1
      have hed := sim_ed hTV hS.2.1
      have hnp := npT_eq hTV.1.2.1 hS.2.2.1
      show WP _ _ _ _ 37 [.ref b, .int (nI x), .int (nI y), .long 0] [.int (nI 1)] (mR b pre 0 tl un kn ap wb tx sq pa ke to wg we th1 pcs1 brs1 be1 po1 ro1 kf1 bg1 en1)
      refine wq_pop rfl rfl ?_
      refine wq_aload_n rfl rfl ?_
      refine wq_getfield (v := .int (nI th1)) rfl (mS_o hb) rfl ?_
      refine wq_iload_n rfl rfl ?_
      refine wq_stat (a := [.int (nI th1), .int (nI x)]) (rest := []) rfl rfl rfl rfl rfl ?_
      refine r_M_has (by omega) (by omega) (fun c43 => ?_) (fun c43 => ?_)
      · skip
        show WP _ _ _ _ 46 [.ref b, .int (nI x), .int (nI y), .long 0] [.int (nI 1)] (mR b pre 0 tl un kn ap wb tx sq pa ke to wg we th1 pcs1 brs1 be1 po1 ro1 kf1 bg1 en1)
        refine wq_if_eq rfl (fun c => absurd c (by decide)) (fun _ => ?_)
        refine wq_aload_n rfl rfl ?_
        refine wq_getfield (v := .int (nI th1)) rfl (mS_o hb) rfl ?_
        refine wq_iload_n rfl rfl ?_
        refine wq_stat (a := [.int (nI th1), .int (nI y)]) (rest := []) rfl rfl rfl rfl rfl ?_
        refine r_M_has (by omega) (by omega) (fun c54 => ?_) (fun c54 => ?_)
        · skip
          show WP _ _ _ _ 57 [.ref b, .int (nI x), .int (nI y), .long 0] [.int (nI 1)] (mR b pre 0 tl un kn ap wb tx sq pa ke to wg we th1 pcs1 brs1 be1 po1 ro1 kf1 bg1 en1)
          refine wq_if_eq rfl (fun c => absurd c (by decide)) (fun _ => ?_)
          refine wq_aload_n rfl rfl ?_
          refine wq_getfield (v := .ref (b + 6)) rfl (mS_o hb) rfl ?_
          refine wq_iload_n rfl rfl ?_
          refine wn_iaload (g := po1) rfl (mS_a10 hb) (by omega) (by decide) ?_
          refine wq_aload_n rfl rfl ?_
          refine wq_getfield (v := .ref (b + 6)) rfl (mS_o hb) rfl ?_
          refine wq_iload_n rfl rfl ?_
          refine wn_iaload (g := po1) rfl (mS_a10 hb) (by omega) (by decide) ?_
          have hpx := hpo1 x (by omega)
          have hpy := hpo1 y (by omega)
          refine wn_ic_ne rfl (by omega) (by omega) (fun c72 => ?_) (fun c72 => ?_)
          · skip
            refine wq_aload_n rfl rfl ?_
            refine wq_aload_n rfl rfl ?_
            refine wq_getfield (v := .ref (b + 6)) rfl (mS_o hb) rfl ?_
            refine wq_iload_n rfl rfl ?_
            refine wn_iaload (g := po1) rfl (mS_a10 hb) (by omega) (by decide) ?_
            refine wq_aload_n rfl rfl ?_
            refine wq_getfield (v := .ref (b + 6)) rfl (mS_o hb) rfl ?_
            refine wq_iload_n rfl rfl ?_
            refine wn_iaload (g := po1) rfl (mS_a10 hb) (by omega) (by decide) ?_
            refine wq_virt (b := b) (a := [.int (nI (po1 x)), .int (nI (po1 y))]) (rest := []) rfl rfl rfl rfl rfl (mS_o hb) ?_
            have hkb := hSB1.2 (po1 x) (po1 y) (hpo1 x (by omega)) (hpo1 y (by omega))
            have hpx := hpo1 x (by omega)
            have hpy := hpo1 y (by omega)
            refine r_S_kinOf hb hpx hpy ?_
            show WP _ _ _ _ 94 [.ref b, .int (nI x), .int (nI y), .long 0] [.int (nI (kf1 (po1 x) (po1 y)))] (mR b pre 0 tl un kn ap wb tx sq pa ke to wg we th1 pcs1 brs1 be1 po1 ro1 kf1 bg1 en1)
            refine wq_istore_n (lv' := [.ref b, .int (nI x), .int (nI y), .int (nI (kf1 (po1 x) (po1 y)))]) rfl rfl rfl ?_
            refine wq_iload_n rfl rfl ?_
            refine wn_if_ne rfl (by omega) (fun c96 => ?_) (fun c96 => ?_)
            · skip
              refine wq_iload_n rfl rfl ?_
              refine wq_iret rfl trivial ?_
              have hbx : (sT (tl, ta, (rn, ra), un, ua, kn, ka)).1.testBit x = true := by have q := c43; rw [hS.1] at q; exact q
              have hby : (sT (tl, ta, (rn, ra), un, ua, kn, ka)).1.testBit y = true := by have q := c54; rw [hS.1] at q; exact q
              have hlab := hS.2.2.1.2.2.2.2 x y (by omega) (by omega) hbx hby
              have hpb : (pOf (sT (tl, ta, (rn, ra), un, ua, kn, ka)).2.2.1 x).testBit y = true ↔ cn (sT (tl, ta, (rn, ra), un, ua, kn, ka)).2.2.1 x y := pOf_bit hTV.1.2.1 (by omega)
              have hncn : ¬ cn (sT (tl, ta, (rn, ra), un, ua, kn, ka)).2.2.1 x y := fun z => c72 (hlab.mpr z)
              have hsc : kf1 (po1 x) (po1 y) = (sT (tl, ta, (rn, ra), un, ua, kn, ka)).2.2.2.2.1 x y := hS.2.2.2.1.2 x y (by omega) (by omega) hbx hby hncn
              have hno : ¬ ((sT (tl, ta, (rn, ra), un, ua, kn, ka)).1.testBit x = false ∨ (sT (tl, ta, (rn, ra), un, ua, kn, ka)).1.testBit y = false ∨ (pOf (sT (tl, ta, (rn, ra), un, ua, kn, ka)).2.2.1 x).testBit y = true) := fun z => z.elim (fun z => by rw [hbx] at z; exact absurd z (by decide)) (fun z => z.elim (fun z => by rw [hby] at z; exact absurd z (by decide)) (fun z => hncn (hpb.mp z)))
              exact fin_ (A' := (tl, ta, (rn, ra), un, ua, kn, ka)) hQ (by unfold f_kin; (try dsimp only); rw [if_neg (by omega), if_neg hno, if_neg (by rw [← hsc]; exact c96), ← hsc]) ⟨_, _, _, _, _, _, _, _, _, _, _, _, _, _, _, _, _, _, _, rfl, hI0, hSB1⟩
            · skip
              refine wq_bipush (v := (-4)) rfl (by decide) ?_
              refine wq_goto rfl ?_
              refine wq_iret rfl trivial ?_
              have hbx : (sT (tl, ta, (rn, ra), un, ua, kn, ka)).1.testBit x = true := by have q := c43; rw [hS.1] at q; exact q
              have hby : (sT (tl, ta, (rn, ra), un, ua, kn, ka)).1.testBit y = true := by have q := c54; rw [hS.1] at q; exact q
              have hlab := hS.2.2.1.2.2.2.2 x y (by omega) (by omega) hbx hby
              have hpb : (pOf (sT (tl, ta, (rn, ra), un, ua, kn, ka)).2.2.1 x).testBit y = true ↔ cn (sT (tl, ta, (rn, ra), un, ua, kn, ka)).2.2.1 x y := pOf_bit hTV.1.2.1 (by omega)
              have hncn : ¬ cn (sT (tl, ta, (rn, ra), un, ua, kn, ka)).2.2.1 x y := fun z => c72 (hlab.mpr z)
              have hsc : kf1 (po1 x) (po1 y) = (sT (tl, ta, (rn, ra), un, ua, kn, ka)).2.2.2.2.1 x y := hS.2.2.2.1.2 x y (by omega) (by omega) hbx hby hncn
              have hno : ¬ ((sT (tl, ta, (rn, ra), un, ua, kn, ka)).1.testBit x = false ∨ (sT (tl, ta, (rn, ra), un, ua, kn, ka)).1.testBit y = false ∨ (pOf (sT (tl, ta, (rn, ra), un, ua, kn, ka)).2.2.1 x).testBit y = true) := fun z => z.elim (fun z => by rw [hbx] at z; exact absurd z (by decide)) (fun z => z.elim (fun z => by rw [hby] at z; exact absurd z (by decide)) (fun z => hncn (hpb.mp z)))
              exact fin_ (A' := (tl, ta, (rn, ra), un, ua, kn, ka)) hQ (by unfold f_kin; (try dsimp only); rw [if_neg (by omega), if_neg hno, if_pos (by rw [← hsc]; exact c96)]) ⟨_, _, _, _, _, _, _, _, _, _, _, _, _, _, _, _, _, _, _, rfl, hI0, hSB1⟩
          · skip
            refine wq_bipush (v := (-2)) rfl (by decide) ?_
            refine wq_iret rfl trivial ?_
            have hbx : (sT (tl, ta, (rn, ra), un, ua, kn, ka)).1.testBit x = true := by have q := c43; rw [hS.1] at q; exact q
            have hby : (sT (tl, ta, (rn, ra), un, ua, kn, ka)).1.testBit y = true := by have q := c54; rw [hS.1] at q; exact q
            have hlab := hS.2.2.1.2.2.2.2 x y (by omega) (by omega) hbx hby
            have hpb : (pOf (sT (tl, ta, (rn, ra), un, ua, kn, ka)).2.2.1 x).testBit y = true ↔ cn (sT (tl, ta, (rn, ra), un, ua, kn, ka)).2.2.1 x y := pOf_bit hTV.1.2.1 (by omega)
            exact fin_ (A' := (tl, ta, (rn, ra), un, ua, kn, ka)) hQ (by unfold f_kin; (try dsimp only); rw [if_neg (by omega), if_pos (Or.inr (Or.inr (hpb.mpr (hlab.mp c72))))]) ⟨_, _, _, _, _, _, _, _, _, _, _, _, _, _, _, _, _, _, _, rfl, hI0, hSB1⟩
        · skip
          show WP _ _ _ _ 57 [.ref b, .int (nI x), .int (nI y), .long 0] [.int (nI 0)] (mR b pre 0 tl un kn ap wb tx sq pa ke to wg we th1 pcs1 brs1 be1 po1 ro1 kf1 bg1 en1)
          refine wq_if_eq rfl (fun _ => ?_) (fun c => absurd c (by decide))
          refine wq_bipush (v := (-2)) rfl (by decide) ?_
          refine wq_iret rfl trivial ?_
          have hbx : (sT (tl, ta, (rn, ra), un, ua, kn, ka)).1.testBit x = true := by have q := c43; rw [hS.1] at q; exact q
          have hby : (sT (tl, ta, (rn, ra), un, ua, kn, ka)).1.testBit y = false := by have q := c54; rw [hS.1] at q; exact q
          exact fin_ (A' := (tl, ta, (rn, ra), un, ua, kn, ka)) hQ (by unfold f_kin; (try dsimp only); rw [if_neg (by omega), if_pos (Or.inr (Or.inl hby))]) ⟨_, _, _, _, _, _, _, _, _, _, _, _, _, _, _, _, _, _, _, rfl, hI0, hSB1⟩
      · skip
        show WP _ _ _ _ 46 [.ref b, .int (nI x), .int (nI y), .long 0] [.int (nI 0)] (mR b pre 0 tl un kn ap wb tx sq pa ke to wg we th1 pcs1 brs1 be1 po1 ro1 kf1 bg1 en1)
        refine wq_if_eq rfl (fun _ => ?_) (fun c => absurd c (by decide))
        refine wq_bipush (v := (-2)) rfl (by decide) ?_
        refine wq_iret rfl trivial ?_
        have hbx : (sT (tl, ta, (rn, ra), un, ua, kn, ka)).1.testBit x = false := by have q := c43; rw [hS.1] at q; exact q
        exact fin_ (A' := (tl, ta, (rn, ra), un, ua, kn, ka)) hQ (by unfold f_kin; (try dsimp only); rw [if_neg (by omega), if_pos (Or.inl hbx)]) ⟨_, _, _, _, _, _, _, _, _, _, _, _, _, _, _, _, _, _, _, rfl, hI0, hSB1⟩
    · skip
      show WP _ _ _ _ 22 [.ref b, .int (nI x), .int (nI y), .long 0] [.int (nI 0)] (mR b pre 0 tl un kn ap wb tx sq pa ke to wg we th pcs brs be po ro kf bg en)
      refine wq_if_ne rfl (fun c => absurd c (by decide)) (fun _ => ?_)
      refine wq_iconst (v := (-1)) rfl (by decide) ?_
      refine wq_iret rfl trivial ?_
      exact fin_ (A' := (tl, ta, (rn, ra), un, ua, kn, ka)) hQ (by unfold f_kin; (try dsimp only); (repeat first | rw [if_pos (by omega)] | rw [if_neg (by omega)]); try rfl) ⟨_, _, _, _, _, _, _, _, _, _, _, _, _, _, _, _, _, _, _, rfl, hI0, hSB⟩
  · skip
    show WP _ _ _ _ 12 [.ref b, .int (nI x), .int (nI y), .long 0] [.int (nI 0)] (mR b pre 0 tl un kn ap wb tx sq pa ke to wg we th pcs brs be po ro kf bg en)
    refine wq_if_eq rfl (fun _ => ?_) (fun c => absurd c (by decide))
    refine wq_iconst (v := (-1)) rfl (by decide) ?_
    refine wq_iret rfl trivial ?_
    exact fin_ (A' := (tl, ta, (rn, ra), un, ua, kn, ka)) hQ (by unfold f_kin; (try dsimp only); (repeat first | rw [if_pos (by omega)] | rw [if_neg (by omega)]); try rfl) ⟨_, _, _, _, _, _, _, _, _, _, _, _, _, _, _, _, _, _, _, rfl, hI0, hSB⟩
theorem R_kin_neg {d b : Nat} {pre : mH} {A : AS} {h : mH} {Q : Option Value → mH → Prop} (hb : pre.length = b) (hR : RIA b pre A h) {v1 v2 : Int32} (hneg : v1 < 0 ∨ v2 < 0) (hQ : ∀ h', RIA b pre A h' → Q (some (.int (-1))) h') : Rn mprog (d + 7) n_M_kin [.ref b, .int v1, .int v2] h Q := by
  obtain ⟨tl, ta, ⟨rn, ra⟩, un, ua, kn, ka⟩ := A
  obtain ⟨tn, ap, wb, tx, sq, pa, ke, to, wg, we, th, pcs, brs, be, po, ro, kf, bg, en, rfl, hI, hSB⟩ := hR
  have hI0 := hI
  obtain ⟨hl, htx, hV, hRR, hu, hU, hk, hK⟩ := hI
  dsimp only at hl htx hV hRR hu hU hk hK
  have hs0 : sq 0 = rn := hRR.1
  have hrn : rn ≤ 40 := hV.1
  refine Rn.in rfl rfl rfl ?_
  show WP _ _ _ _ 0 [.ref b, .int v1, .int v2, .long 0] [] (mR b pre tn tl un kn ap wb tx sq pa ke to wg we th pcs brs be po ro kf bg en)
  refine wq_aload_n rfl rfl ?_
  refine wq_iconst (v := nI 0) rfl (by decide) ?_
  refine wq_putfield (h' := mR b pre 0 tl un kn ap wb tx sq pa ke to wg we th pcs brs be po ro kf bg en) rfl (mS_o hb) rfl (mS_s0 hb) ?_
  refine wq_iload_n rfl rfl ?_
  refine wq_iconst (v := nI 0) rfl (by decide) ?_
  refine wq_bipush (v := nI 8) rfl (by decide) ?_
  refine wq_stat (a := [.int v1, .int (nI 0), .int (nI 8)]) (rest := []) rfl rfl rfl rfl rfl ?_
  refine r_M_in (fun c9 => ?_) (fun c9 => ?_)
  · skip
    show WP _ _ _ _ 12 [.ref b, .int v1, .int v2, .long 0] [.int (nI 1)] (mR b pre 0 tl un kn ap wb tx sq pa ke to wg we th pcs brs be po ro kf bg en)
    refine wq_if_eq rfl (fun c => absurd c (by decide)) (fun _ => ?_)
    refine wq_iload_n rfl rfl ?_
    refine wq_iconst (v := nI 0) rfl (by decide) ?_
    refine wq_bipush (v := nI 8) rfl (by decide) ?_
    refine wq_stat (a := [.int v2, .int (nI 0), .int (nI 8)]) (rest := []) rfl rfl rfl rfl rfl ?_
    refine r_M_in (fun c19 => absurd c19 (fun z => hneg.elim (fun q => nI_ngl q (by decide) c9.1) (fun h0 => (fun q => nI_ngl q (by decide) z.1) h0))) (fun c19 => ?_)
    show WP _ _ _ _ 22 [.ref b, .int v1, .int v2, .long 0] [.int (nI 0)] (mR b pre 0 tl un kn ap wb tx sq pa ke to wg we th pcs brs be po ro kf bg en)
    refine wq_if_ne rfl (fun c => absurd c (by decide)) (fun _ => ?_)
    refine wq_iconst (v := (-1)) rfl (by decide) ?_
    refine wq_iret rfl trivial ?_
    exact hQ _ ⟨_, _, _, _, _, _, _, _, _, _, _, _, _, _, _, _, _, _, _, rfl, hI0, hSB⟩
  · skip
    show WP _ _ _ _ 12 [.ref b, .int v1, .int v2, .long 0] [.int (nI 0)] (mR b pre 0 tl un kn ap wb tx sq pa ke to wg we th pcs brs be po ro kf bg en)
    refine wq_if_eq rfl (fun _ => ?_) (fun c => absurd c (by decide))
    refine wq_iconst (v := (-1)) rfl (by decide) ?_
    refine wq_iret rfl trivial ?_
    exact hQ _ ⟨_, _, _, _, _, _, _, _, _, _, _, _, _, _, _, _, _, _, _, rfl, hI0, hSB⟩
theorem R_bar {d b : Nat} {pre : mH} {A : AS} {h : mH} {Q : Option Value → mH → Prop} (hb : pre.length = b) (hR : RIA b pre A h) {i : Nat} (hi0 : i < 2 ^ 31) {w : Nat} (hw0 : w < 2 ^ 31) (hQ : ∀ h', RIA b pre (f_bar A i w).2 h' → Q (some (.int (f_bar A i w).1)) h') : Rn mprog (d + 7) n_M_bar [.ref b, .int (nI i), .int (nI w)] h Q := by
  obtain ⟨tl, ta, ⟨rn, ra⟩, un, ua, kn, ka⟩ := A
  obtain ⟨tn, ap, wb, tx, sq, pa, ke, to, wg, we, th, pcs, brs, be, po, ro, kf, bg, en, rfl, hI, hSB⟩ := hR
  have hI0 := hI
  obtain ⟨hl, htx, hV, hRR, hu, hU, hk, hK⟩ := hI
  dsimp only at hl htx hV hRR hu hU hk hK
  have hs0 : sq 0 = rn := hRR.1
  have hrn : rn ≤ 40 := hV.1
  refine Rn.in rfl rfl rfl ?_
  show WP _ _ _ _ 0 [.ref b, .int (nI i), .int (nI w)] [] (mR b pre tn tl un kn ap wb tx sq pa ke to wg we th pcs brs be po ro kf bg en)
  refine wq_aload_n rfl rfl ?_
  refine wq_iconst (v := nI 0) rfl (by decide) ?_
  refine wq_putfield (h' := mR b pre 0 tl un kn ap wb tx sq pa ke to wg we th pcs brs be po ro kf bg en) rfl (mS_o hb) rfl (mS_s0 hb) ?_
  refine wq_iload_n rfl rfl ?_
  refine wq_bipush (v := (-3)) rfl (by decide) ?_
  refine wq_ic_lt rfl (fun c8 => absurd c8 (fun z => absurd (nI_neg (k := i) (v := -3) (by decide) (by omega)) (Int32.lt_asymm z))) (fun c8 => ?_)
  refine wq_iload_n rfl rfl ?_
  refine wq_iconst (v := nI 0) rfl (by decide) ?_
  refine wq_iconst (v := nI 2) rfl (by decide) ?_
  refine wq_stat (a := [.int (nI w), .int (nI 0), .int (nI 2)]) (rest := []) rfl rfl rfl rfl rfl ?_
  refine r_M_inN (by omega) (by omega) (by omega) (fun c14 => ?_) (fun c14 => ?_)
  · skip
    show WP _ _ _ _ 17 [.ref b, .int (nI i), .int (nI w)] [.int (nI 1)] (mR b pre 0 tl un kn ap wb tx sq pa ke to wg we th pcs brs be po ro kf bg en)
    refine wq_if_ne rfl (fun _ => ?_) (fun c => absurd c (by decide))
    refine wq_aload_n rfl rfl ?_
    refine wq_virt (b := b) (a := []) (rest := []) rfl rfl rfl rfl rfl (mS_o hb) ?_
    refine r_R_all hb hSB hrn hV.2.1 hRR (fun _ th1 pcs1 brs1 be1 po1 ro1 kf1 bg1 en1 hB1 hSB1 => ?_) (fun z => absurd hV.2.2 z)
    obtain ⟨hn1, hq1⟩ := BL_BQ hV hB1
    have hbv1 := BL_BV hV hB1
    obtain ⟨ll1, ll2⟩ := BL_l hB1
    show WP _ _ _ _ 26 [.ref b, .int (nI i), .int (nI w)] [.int (nI 1)] (mR b pre 0 tl un kn ap wb tx sq pa ke to wg we th1 pcs1 brs1 be1 po1 ro1 kf1 bg1 en1)
    refine wq_pop rfl rfl ?_
    refine wq_iload_n rfl rfl ?_
    refine wn_if_ge rfl (by omega) ?_
    refine wq_iload_n rfl rfl ?_
    refine wq_aload_n rfl rfl ?_
    refine wq_getfield (v := .int (nI brs1)) rfl (mS_o hb) rfl ?_
    refine wn_ic_lt rfl (by omega) (by omega) (fun c71 => ?_) (fun c71 => ?_)
    · skip
      refine wq_iload_n rfl rfl ?_
      refine wn_if_ne rfl (by omega) (fun c80 => ?_) (fun c80 => ?_)
      · skip
        refine wq_iload_n rfl rfl ?_
        refine wq_iconst (v := nI 1) rfl (by decide) ?_
        refine wn_ic_ne rfl (by omega) (by omega) (fun c94 => ?_) (fun c94 => ?_)
        · skip
          refine wq_aload_n rfl rfl ?_
          refine wq_iload_n rfl rfl ?_
          refine wq_virt (b := b) (a := [.int (nI i)]) (rest := []) rfl rfl rfl rfl rfl (mS_o hb) ?_
          refine r_M_lengthOf hb hn1 (by omega) (by rw [hs0]; exact hq1) (by omega) ?_
          show WP _ _ _ _ 111 [.ref b, .int (nI i), .int (nI w)] [.int (nI (lnN (sq 0) (bg1 i) (en1 i)))] (mR b pre 0 tl un kn ap wb tx sq pa ke to wg we th1 pcs1 brs1 be1 po1 ro1 kf1 bg1 en1)
          refine wq_iret rfl trivial ?_
          have hbl : (bT (tl, ta, (rn, ra), un, ua, kn, ka)).length = brs1 := ll1.symm
          have hl1 : bg1 i = lF (bT (tl, ta, (rn, ra), un, ua, kn, ka)) i := (ll2 i (by omega)).1
          have hl2 : en1 i = lG (bT (tl, ta, (rn, ra), un, ua, kn, ka)) i := (ll2 i (by omega)).2
          rw [hs0, hl1, hl2]
          exact fin_ (A' := (tl, ta, (rn, ra), un, ua, kn, ka)) hQ (by unfold f_bar; (try dsimp only); (repeat first | rw [if_pos (by omega)] | rw [if_neg (by omega)]); try rfl) ⟨_, _, _, _, _, _, _, _, _, _, _, _, _, _, _, _, _, _, _, rfl, hI0, hSB1⟩
        · skip
          refine wq_aload_n rfl rfl ?_
          refine wq_getfield (v := .ref (b + 10)) rfl (mS_o hb) rfl ?_
          refine wq_iload_n rfl rfl ?_
          refine wn_iaload (g := en1) rfl (mS_a15 hb) (by omega) (by decide) ?_
          refine wq_goto rfl ?_
          refine wq_iret rfl trivial ?_
          have hbl : (bT (tl, ta, (rn, ra), un, ua, kn, ka)).length = brs1 := ll1.symm
          have hl1 : bg1 i = lF (bT (tl, ta, (rn, ra), un, ua, kn, ka)) i := (ll2 i (by omega)).1
          have hl2 : en1 i = lG (bT (tl, ta, (rn, ra), un, ua, kn, ka)) i := (ll2 i (by omega)).2
          rw [hl2]
          exact fin_ (A' := (tl, ta, (rn, ra), un, ua, kn, ka)) hQ (by unfold f_bar; (try dsimp only); (repeat first | rw [if_pos (by omega)] | rw [if_neg (by omega)]); try rfl) ⟨_, _, _, _, _, _, _, _, _, _, _, _, _, _, _, _, _, _, _, rfl, hI0, hSB1⟩
      · skip
        refine wq_aload_n rfl rfl ?_
        refine wq_getfield (v := .ref (b + 9)) rfl (mS_o hb) rfl ?_
        refine wq_iload_n rfl rfl ?_
        refine wn_iaload (g := bg1) rfl (mS_a14 hb) (by omega) (by decide) ?_
        refine wq_goto rfl ?_
        refine wq_iret rfl trivial ?_
        have hbl : (bT (tl, ta, (rn, ra), un, ua, kn, ka)).length = brs1 := ll1.symm
        have hl1 : bg1 i = lF (bT (tl, ta, (rn, ra), un, ua, kn, ka)) i := (ll2 i (by omega)).1
        have hl2 : en1 i = lG (bT (tl, ta, (rn, ra), un, ua, kn, ka)) i := (ll2 i (by omega)).2
        rw [hl1]
        exact fin_ (A' := (tl, ta, (rn, ra), un, ua, kn, ka)) hQ (by unfold f_bar; (try dsimp only); (repeat first | rw [if_pos (by omega)] | rw [if_neg (by omega)]); try rfl) ⟨_, _, _, _, _, _, _, _, _, _, _, _, _, _, _, _, _, _, _, rfl, hI0, hSB1⟩
    · skip
      refine wq_bipush (v := (-4)) rfl (by decide) ?_
      refine wq_goto rfl ?_
      refine wq_iret rfl trivial ?_
      have hbl : (bT (tl, ta, (rn, ra), un, ua, kn, ka)).length = brs1 := ll1.symm
      exact fin_ (A' := (tl, ta, (rn, ra), un, ua, kn, ka)) hQ (by unfold f_bar; (try dsimp only); (repeat first | rw [if_pos (by omega)] | rw [if_neg (by omega)]); try rfl) ⟨_, _, _, _, _, _, _, _, _, _, _, _, _, _, _, _, _, _, _, rfl, hI0, hSB1⟩
  · skip
    show WP _ _ _ _ 17 [.ref b, .int (nI i), .int (nI w)] [.int (nI 0)] (mR b pre 0 tl un kn ap wb tx sq pa ke to wg we th pcs brs be po ro kf bg en)
    refine wq_if_ne rfl (fun c => absurd c (by decide)) (fun _ => ?_)
    refine wq_iconst (v := (-1)) rfl (by decide) ?_
    refine wq_iret rfl trivial ?_
    exact fin_ (A' := (tl, ta, (rn, ra), un, ua, kn, ka)) hQ (by unfold f_bar; (try dsimp only); (repeat first | rw [if_pos (by omega)] | rw [if_neg (by omega)]); try rfl) ⟨_, _, _, _, _, _, _, _, _, _, _, _, _, _, _, _, _, _, _, rfl, hI0, hSB⟩
theorem R_bar1 {d b : Nat} {pre : mH} {A : AS} {h : mH} {Q : Option Value → mH → Prop} (hb : pre.length = b) (hR : RIA b pre A h) {w : Nat} (hw0 : w < 2 ^ 31) (hQ : ∀ h', RIA b pre (f_barN A 1 w).2 h' → Q (some (.int (f_barN A 1 w).1)) h') : Rn mprog (d + 7) n_M_bar [.ref b, .int ((-1)), .int (nI w)] h Q := by
  obtain ⟨tl, ta, ⟨rn, ra⟩, un, ua, kn, ka⟩ := A
  obtain ⟨tn, ap, wb, tx, sq, pa, ke, to, wg, we, th, pcs, brs, be, po, ro, kf, bg, en, rfl, hI, hSB⟩ := hR
  have hI0 := hI
  obtain ⟨hl, htx, hV, hRR, hu, hU, hk, hK⟩ := hI
  dsimp only at hl htx hV hRR hu hU hk hK
  have hs0 : sq 0 = rn := hRR.1
  have hrn : rn ≤ 40 := hV.1
  refine Rn.in rfl rfl rfl ?_
  show WP _ _ _ _ 0 [.ref b, .int ((-1)), .int (nI w)] [] (mR b pre tn tl un kn ap wb tx sq pa ke to wg we th pcs brs be po ro kf bg en)
  refine wq_aload_n rfl rfl ?_
  refine wq_iconst (v := nI 0) rfl (by decide) ?_
  refine wq_putfield (h' := mR b pre 0 tl un kn ap wb tx sq pa ke to wg we th pcs brs be po ro kf bg en) rfl (mS_o hb) rfl (mS_s0 hb) ?_
  refine wq_iload_n rfl rfl ?_
  refine wq_bipush (v := (-3)) rfl (by decide) ?_
  refine wq_ic_lt rfl (fun c8 => absurd c8 (by decide)) (fun c8 => ?_)
  refine wq_iload_n rfl rfl ?_
  refine wq_iconst (v := nI 0) rfl (by decide) ?_
  refine wq_iconst (v := nI 2) rfl (by decide) ?_
  refine wq_stat (a := [.int (nI w), .int (nI 0), .int (nI 2)]) (rest := []) rfl rfl rfl rfl rfl ?_
  refine r_M_inN (by omega) (by omega) (by omega) (fun c14 => ?_) (fun c14 => ?_)
  · skip
    show WP _ _ _ _ 17 [.ref b, .int ((-1)), .int (nI w)] [.int (nI 1)] (mR b pre 0 tl un kn ap wb tx sq pa ke to wg we th pcs brs be po ro kf bg en)
    refine wq_if_ne rfl (fun _ => ?_) (fun c => absurd c (by decide))
    refine wq_aload_n rfl rfl ?_
    refine wq_virt (b := b) (a := []) (rest := []) rfl rfl rfl rfl rfl (mS_o hb) ?_
    refine r_R_all hb hSB hrn hV.2.1 hRR (fun _ th1 pcs1 brs1 be1 po1 ro1 kf1 bg1 en1 hB1 hSB1 => ?_) (fun z => absurd hV.2.2 z)
    obtain ⟨hn1, hq1⟩ := BL_BQ hV hB1
    have hbv1 := BL_BV hV hB1
    obtain ⟨ll1, ll2⟩ := BL_l hB1
    show WP _ _ _ _ 26 [.ref b, .int ((-1)), .int (nI w)] [.int (nI 1)] (mR b pre 0 tl un kn ap wb tx sq pa ke to wg we th1 pcs1 brs1 be1 po1 ro1 kf1 bg1 en1)
    refine wq_pop rfl rfl ?_
    refine wq_iload_n rfl rfl ?_
    refine wq_if_ge rfl (fun c28 => absurd c28 (by decide)) (fun c28 => ?_)
    refine wq_iload_n rfl rfl ?_
    refine wq_iconst (v := (-1)) rfl (by decide) ?_
    refine wq_ic_ne rfl (fun c33 => absurd c33 (fun z => z rfl)) (fun c33 => ?_)
    refine wq_aload_n rfl rfl ?_
    refine wq_getfield (v := .int (nI brs1)) rfl (mS_o hb) rfl ?_
    refine wq_goto rfl ?_
    refine wq_iret rfl trivial ?_
    have hbl : (bT (tl, ta, (rn, ra), un, ua, kn, ka)).length = brs1 := ll1.symm
    have hop : cntA (fun j => Nat.beq (en1 j) 99) brs1 = (opT (sT (tl, ta, (rn, ra), un, ua, kn, ka))).length := BL_op hV hB1
    rw [← hbl]
    exact fin_ (A' := (tl, ta, (rn, ra), un, ua, kn, ka)) hQ (by unfold f_barN; (try dsimp only); rw [if_neg (by omega), if_pos rfl]) ⟨_, _, _, _, _, _, _, _, _, _, _, _, _, _, _, _, _, _, _, rfl, hI0, hSB1⟩
  · skip
    show WP _ _ _ _ 17 [.ref b, .int ((-1)), .int (nI w)] [.int (nI 0)] (mR b pre 0 tl un kn ap wb tx sq pa ke to wg we th pcs brs be po ro kf bg en)
    refine wq_if_ne rfl (fun c => absurd c (by decide)) (fun _ => ?_)
    refine wq_iconst (v := (-1)) rfl (by decide) ?_
    refine wq_iret rfl trivial ?_
    exact fin_ (A' := (tl, ta, (rn, ra), un, ua, kn, ka)) hQ (by unfold f_barN; (try dsimp only); (repeat first | rw [if_pos (by omega)] | rw [if_neg (by omega)]); try rfl) ⟨_, _, _, _, _, _, _, _, _, _, _, _, _, _, _, _, _, _, _, rfl, hI0, hSB⟩
theorem R_bar2 {d b : Nat} {pre : mH} {A : AS} {h : mH} {Q : Option Value → mH → Prop} (hb : pre.length = b) (hR : RIA b pre A h) {w : Nat} (hw0 : w < 2 ^ 31) (hQ : ∀ h', RIA b pre (f_barN A 2 w).2 h' → Q (some (.int (f_barN A 2 w).1)) h') : Rn mprog (d + 7) n_M_bar [.ref b, .int ((-2)), .int (nI w)] h Q := by
  obtain ⟨tl, ta, ⟨rn, ra⟩, un, ua, kn, ka⟩ := A
  obtain ⟨tn, ap, wb, tx, sq, pa, ke, to, wg, we, th, pcs, brs, be, po, ro, kf, bg, en, rfl, hI, hSB⟩ := hR
  have hI0 := hI
  obtain ⟨hl, htx, hV, hRR, hu, hU, hk, hK⟩ := hI
  dsimp only at hl htx hV hRR hu hU hk hK
  have hs0 : sq 0 = rn := hRR.1
  have hrn : rn ≤ 40 := hV.1
  refine Rn.in rfl rfl rfl ?_
  show WP _ _ _ _ 0 [.ref b, .int ((-2)), .int (nI w)] [] (mR b pre tn tl un kn ap wb tx sq pa ke to wg we th pcs brs be po ro kf bg en)
  refine wq_aload_n rfl rfl ?_
  refine wq_iconst (v := nI 0) rfl (by decide) ?_
  refine wq_putfield (h' := mR b pre 0 tl un kn ap wb tx sq pa ke to wg we th pcs brs be po ro kf bg en) rfl (mS_o hb) rfl (mS_s0 hb) ?_
  refine wq_iload_n rfl rfl ?_
  refine wq_bipush (v := (-3)) rfl (by decide) ?_
  refine wq_ic_lt rfl (fun c8 => absurd c8 (by decide)) (fun c8 => ?_)
  refine wq_iload_n rfl rfl ?_
  refine wq_iconst (v := nI 0) rfl (by decide) ?_
  refine wq_iconst (v := nI 2) rfl (by decide) ?_
  refine wq_stat (a := [.int (nI w), .int (nI 0), .int (nI 2)]) (rest := []) rfl rfl rfl rfl rfl ?_
  refine r_M_inN (by omega) (by omega) (by omega) (fun c14 => ?_) (fun c14 => ?_)
  · skip
    show WP _ _ _ _ 17 [.ref b, .int ((-2)), .int (nI w)] [.int (nI 1)] (mR b pre 0 tl un kn ap wb tx sq pa ke to wg we th pcs brs be po ro kf bg en)
    refine wq_if_ne rfl (fun _ => ?_) (fun c => absurd c (by decide))
    refine wq_aload_n rfl rfl ?_
    refine wq_virt (b := b) (a := []) (rest := []) rfl rfl rfl rfl rfl (mS_o hb) ?_
    refine r_R_all hb hSB hrn hV.2.1 hRR (fun _ th1 pcs1 brs1 be1 po1 ro1 kf1 bg1 en1 hB1 hSB1 => ?_) (fun z => absurd hV.2.2 z)
    obtain ⟨hn1, hq1⟩ := BL_BQ hV hB1
    have hbv1 := BL_BV hV hB1
    obtain ⟨ll1, ll2⟩ := BL_l hB1
    show WP _ _ _ _ 26 [.ref b, .int ((-2)), .int (nI w)] [.int (nI 1)] (mR b pre 0 tl un kn ap wb tx sq pa ke to wg we th1 pcs1 brs1 be1 po1 ro1 kf1 bg1 en1)
    refine wq_pop rfl rfl ?_
    refine wq_iload_n rfl rfl ?_
    refine wq_if_ge rfl (fun c28 => absurd c28 (by decide)) (fun c28 => ?_)
    refine wq_iload_n rfl rfl ?_
    refine wq_iconst (v := (-1)) rfl (by decide) ?_
    refine wq_ic_ne rfl (fun c33 => ?_) (fun c33 => absurd c33 (by decide))
    refine wq_iload_n rfl rfl ?_
    refine wq_bipush (v := (-2)) rfl (by decide) ?_
    refine wq_ic_ne rfl (fun c46 => absurd c46 (fun z => z rfl)) (fun c46 => ?_)
    refine wq_aload_n rfl rfl ?_
    refine wq_virt (b := b) (a := []) (rest := []) rfl rfl rfl rfl rfl (mS_o hb) ?_
    refine r_M_open hb hn1 hbv1 ?_
    show WP _ _ _ _ 53 [.ref b, .int ((-2)), .int (nI w)] [.int (nI (cntA (fun j => Nat.beq (en1 j) 99) brs1))] (mR b pre 0 tl un kn ap wb tx sq pa ke to wg we th1 pcs1 brs1 be1 po1 ro1 kf1 bg1 en1)
    refine wq_goto rfl ?_
    refine wq_iret rfl trivial ?_
    have hbl : (bT (tl, ta, (rn, ra), un, ua, kn, ka)).length = brs1 := ll1.symm
    have hop : cntA (fun j => Nat.beq (en1 j) 99) brs1 = (opT (sT (tl, ta, (rn, ra), un, ua, kn, ka))).length := BL_op hV hB1
    rw [hop]
    exact fin_ (A' := (tl, ta, (rn, ra), un, ua, kn, ka)) hQ (by unfold f_barN; (try dsimp only); rw [if_neg (by omega), if_neg (by decide), if_pos rfl]) ⟨_, _, _, _, _, _, _, _, _, _, _, _, _, _, _, _, _, _, _, rfl, hI0, hSB1⟩
  · skip
    show WP _ _ _ _ 17 [.ref b, .int ((-2)), .int (nI w)] [.int (nI 0)] (mR b pre 0 tl un kn ap wb tx sq pa ke to wg we th pcs brs be po ro kf bg en)
    refine wq_if_ne rfl (fun c => absurd c (by decide)) (fun _ => ?_)
    refine wq_iconst (v := (-1)) rfl (by decide) ?_
    refine wq_iret rfl trivial ?_
    exact fin_ (A' := (tl, ta, (rn, ra), un, ua, kn, ka)) hQ (by unfold f_barN; (try dsimp only); (repeat first | rw [if_pos (by omega)] | rw [if_neg (by omega)]); try rfl) ⟨_, _, _, _, _, _, _, _, _, _, _, _, _, _, _, _, _, _, _, rfl, hI0, hSB⟩
theorem R_bar3 {d b : Nat} {pre : mH} {A : AS} {h : mH} {Q : Option Value → mH → Prop} (hb : pre.length = b) (hR : RIA b pre A h) {w : Nat} (hw0 : w < 2 ^ 31) (hQ : ∀ h', RIA b pre (f_barN A 3 w).2 h' → Q (some (.int (f_barN A 3 w).1)) h') : Rn mprog (d + 7) n_M_bar [.ref b, .int ((-3)), .int (nI w)] h Q := by
  obtain ⟨tl, ta, ⟨rn, ra⟩, un, ua, kn, ka⟩ := A
  obtain ⟨tn, ap, wb, tx, sq, pa, ke, to, wg, we, th, pcs, brs, be, po, ro, kf, bg, en, rfl, hI, hSB⟩ := hR
  have hI0 := hI
  obtain ⟨hl, htx, hV, hRR, hu, hU, hk, hK⟩ := hI
  dsimp only at hl htx hV hRR hu hU hk hK
  have hs0 : sq 0 = rn := hRR.1
  have hrn : rn ≤ 40 := hV.1
  refine Rn.in rfl rfl rfl ?_
  show WP _ _ _ _ 0 [.ref b, .int ((-3)), .int (nI w)] [] (mR b pre tn tl un kn ap wb tx sq pa ke to wg we th pcs brs be po ro kf bg en)
  refine wq_aload_n rfl rfl ?_
  refine wq_iconst (v := nI 0) rfl (by decide) ?_
  refine wq_putfield (h' := mR b pre 0 tl un kn ap wb tx sq pa ke to wg we th pcs brs be po ro kf bg en) rfl (mS_o hb) rfl (mS_s0 hb) ?_
  refine wq_iload_n rfl rfl ?_
  refine wq_bipush (v := (-3)) rfl (by decide) ?_
  refine wq_ic_lt rfl (fun c8 => absurd c8 (by decide)) (fun c8 => ?_)
  refine wq_iload_n rfl rfl ?_
  refine wq_iconst (v := nI 0) rfl (by decide) ?_
  refine wq_iconst (v := nI 2) rfl (by decide) ?_
  refine wq_stat (a := [.int (nI w), .int (nI 0), .int (nI 2)]) (rest := []) rfl rfl rfl rfl rfl ?_
  refine r_M_inN (by omega) (by omega) (by omega) (fun c14 => ?_) (fun c14 => ?_)
  · skip
    show WP _ _ _ _ 17 [.ref b, .int ((-3)), .int (nI w)] [.int (nI 1)] (mR b pre 0 tl un kn ap wb tx sq pa ke to wg we th pcs brs be po ro kf bg en)
    refine wq_if_ne rfl (fun _ => ?_) (fun c => absurd c (by decide))
    refine wq_aload_n rfl rfl ?_
    refine wq_virt (b := b) (a := []) (rest := []) rfl rfl rfl rfl rfl (mS_o hb) ?_
    refine r_R_all hb hSB hrn hV.2.1 hRR (fun _ th1 pcs1 brs1 be1 po1 ro1 kf1 bg1 en1 hB1 hSB1 => ?_) (fun z => absurd hV.2.2 z)
    obtain ⟨hn1, hq1⟩ := BL_BQ hV hB1
    have hbv1 := BL_BV hV hB1
    obtain ⟨ll1, ll2⟩ := BL_l hB1
    show WP _ _ _ _ 26 [.ref b, .int ((-3)), .int (nI w)] [.int (nI 1)] (mR b pre 0 tl un kn ap wb tx sq pa ke to wg we th1 pcs1 brs1 be1 po1 ro1 kf1 bg1 en1)
    refine wq_pop rfl rfl ?_
    refine wq_iload_n rfl rfl ?_
    refine wq_if_ge rfl (fun c28 => absurd c28 (by decide)) (fun c28 => ?_)
    refine wq_iload_n rfl rfl ?_
    refine wq_iconst (v := (-1)) rfl (by decide) ?_
    refine wq_ic_ne rfl (fun c33 => ?_) (fun c33 => absurd c33 (by decide))
    refine wq_iload_n rfl rfl ?_
    refine wq_bipush (v := (-2)) rfl (by decide) ?_
    refine wq_ic_ne rfl (fun c46 => ?_) (fun c46 => absurd c46 (by decide))
    refine wq_aload_n rfl rfl ?_
    refine wq_getfield (v := .int (nI brs1)) rfl (mS_o hb) rfl ?_
    refine wq_aload_n rfl rfl ?_
    refine wq_virt (b := b) (a := []) (rest := [.int (nI brs1)]) rfl rfl rfl rfl rfl (mS_o hb) ?_
    refine r_M_open hb hn1 hbv1 ?_
    show WP _ _ _ _ 64 [.ref b, .int ((-3)), .int (nI w)] [.int (nI (cntA (fun j => Nat.beq (en1 j) 99) brs1)), .int (nI brs1)] (mR b pre 0 tl un kn ap wb tx sq pa ke to wg we th1 pcs1 brs1 be1 po1 ro1 kf1 bg1 en1)
    refine wn_isub rfl (cntA_le _ _) ?_
    refine wq_iret rfl trivial ?_
    have hbl : (bT (tl, ta, (rn, ra), un, ua, kn, ka)).length = brs1 := ll1.symm
    have hop : cntA (fun j => Nat.beq (en1 j) 99) brs1 = (opT (sT (tl, ta, (rn, ra), un, ua, kn, ka))).length := BL_op hV hB1
    rw [hop, ← hbl]
    exact fin_ (A' := (tl, ta, (rn, ra), un, ua, kn, ka)) hQ (by unfold f_barN; (try dsimp only); rw [if_neg (by omega), if_neg (by decide), if_neg (by decide)]) ⟨_, _, _, _, _, _, _, _, _, _, _, _, _, _, _, _, _, _, _, rfl, hI0, hSB1⟩
  · skip
    show WP _ _ _ _ 17 [.ref b, .int ((-3)), .int (nI w)] [.int (nI 0)] (mR b pre 0 tl un kn ap wb tx sq pa ke to wg we th pcs brs be po ro kf bg en)
    refine wq_if_ne rfl (fun c => absurd c (by decide)) (fun _ => ?_)
    refine wq_iconst (v := (-1)) rfl (by decide) ?_
    refine wq_iret rfl trivial ?_
    exact fin_ (A' := (tl, ta, (rn, ra), un, ua, kn, ka)) hQ (by unfold f_barN; (try dsimp only); (repeat first | rw [if_pos (by omega)] | rw [if_neg (by omega)]); try rfl) ⟨_, _, _, _, _, _, _, _, _, _, _, _, _, _, _, _, _, _, _, rfl, hI0, hSB⟩
theorem R_bar_neg {d b : Nat} {pre : mH} {A : AS} {h : mH} {Q : Option Value → mH → Prop} (hb : pre.length = b) (hR : RIA b pre A h) {v1 v2 : Int32} (hneg : v1 < -3 ∨ v2 < 0) (hQ : ∀ h', RIA b pre A h' → Q (some (.int (-1))) h') : Rn mprog (d + 7) n_M_bar [.ref b, .int v1, .int v2] h Q := by
  obtain ⟨tl, ta, ⟨rn, ra⟩, un, ua, kn, ka⟩ := A
  obtain ⟨tn, ap, wb, tx, sq, pa, ke, to, wg, we, th, pcs, brs, be, po, ro, kf, bg, en, rfl, hI, hSB⟩ := hR
  have hI0 := hI
  obtain ⟨hl, htx, hV, hRR, hu, hU, hk, hK⟩ := hI
  dsimp only at hl htx hV hRR hu hU hk hK
  have hs0 : sq 0 = rn := hRR.1
  have hrn : rn ≤ 40 := hV.1
  refine Rn.in rfl rfl rfl ?_
  show WP _ _ _ _ 0 [.ref b, .int v1, .int v2] [] (mR b pre tn tl un kn ap wb tx sq pa ke to wg we th pcs brs be po ro kf bg en)
  refine wq_aload_n rfl rfl ?_
  refine wq_iconst (v := nI 0) rfl (by decide) ?_
  refine wq_putfield (h' := mR b pre 0 tl un kn ap wb tx sq pa ke to wg we th pcs brs be po ro kf bg en) rfl (mS_o hb) rfl (mS_s0 hb) ?_
  refine wq_iload_n rfl rfl ?_
  refine wq_bipush (v := (-3)) rfl (by decide) ?_
  refine wq_ic_lt rfl (fun c8 => ?_) (fun c8 => ?_)
  · skip
    refine wq_iconst (v := (-1)) rfl (by decide) ?_
    refine wq_iret rfl trivial ?_
    exact hQ _ ⟨_, _, _, _, _, _, _, _, _, _, _, _, _, _, _, _, _, _, _, rfl, hI0, hSB⟩
  · skip
    refine wq_iload_n rfl rfl ?_
    refine wq_iconst (v := nI 0) rfl (by decide) ?_
    refine wq_iconst (v := nI 2) rfl (by decide) ?_
    refine wq_stat (a := [.int v2, .int (nI 0), .int (nI 2)]) (rest := []) rfl rfl rfl rfl rfl ?_
    refine r_M_in (fun c14 => absurd c14 (fun z => hneg.elim (fun q => c8 q) (fun q => nI_ngl (k := 0) q (by decide) z.1))) (fun c14 => ?_)
    show WP _ _ _ _ 17 [.ref b, .int v1, .int v2] [.int (nI 0)] (mR b pre 0 tl un kn ap wb tx sq pa ke to wg we th pcs brs be po ro kf bg en)
    refine wq_if_ne rfl (fun c => absurd c (by decide)) (fun _ => ?_)
    refine wq_iconst (v := (-1)) rfl (by decide) ?_
    refine wq_iret rfl trivial ?_
    exact hQ _ ⟨_, _, _, _, _, _, _, _, _, _, _, _, _, _, _, _, _, _, _, rfl, hI0, hSB⟩
theorem R_count {d b : Nat} {pre : mH} {A : AS} {h : mH} {Q : Option Value → mH → Prop} (hb : pre.length = b) (hR : RIA b pre A h) {w : Nat} (hw0 : w < 2 ^ 31) (hQ : ∀ h', RIA b pre (f_count A w).2 h' → Q (some (.int (f_count A w).1)) h') : Rn mprog (d + 7) n_M_count [.ref b, .int (nI w)] h Q := by
  obtain ⟨tl, ta, ⟨rn, ra⟩, un, ua, kn, ka⟩ := A
  obtain ⟨tn, ap, wb, tx, sq, pa, ke, to, wg, we, th, pcs, brs, be, po, ro, kf, bg, en, rfl, hI, hSB⟩ := hR
  have hI0 := hI
  obtain ⟨hl, htx, hV, hRR, hu, hU, hk, hK⟩ := hI
  dsimp only at hl htx hV hRR hu hU hk hK
  have hs0 : sq 0 = rn := hRR.1
  have hrn : rn ≤ 40 := hV.1
  refine Rn.in rfl rfl rfl ?_
  show WP _ _ _ _ 0 [.ref b, .int (nI w)] [] (mR b pre tn tl un kn ap wb tx sq pa ke to wg we th pcs brs be po ro kf bg en)
  refine wq_aload_n rfl rfl ?_
  refine wq_iconst (v := nI 0) rfl (by decide) ?_
  refine wq_putfield (h' := mR b pre 0 tl un kn ap wb tx sq pa ke to wg we th pcs brs be po ro kf bg en) rfl (mS_o hb) rfl (mS_s0 hb) ?_
  refine wq_iload_n rfl rfl ?_
  refine wq_iconst (v := nI 0) rfl (by decide) ?_
  refine wq_bipush (v := nI 6) rfl (by decide) ?_
  refine wq_stat (a := [.int (nI w), .int (nI 0), .int (nI 6)]) (rest := []) rfl rfl rfl rfl rfl ?_
  refine r_M_inN (by omega) (by omega) (by omega) (fun c9 => ?_) (fun c9 => ?_)
  · skip
    show WP _ _ _ _ 12 [.ref b, .int (nI w)] [.int (nI 1)] (mR b pre 0 tl un kn ap wb tx sq pa ke to wg we th pcs brs be po ro kf bg en)
    refine wq_if_ne rfl (fun _ => ?_) (fun c => absurd c (by decide))
    refine wq_aload_n rfl rfl ?_
    refine wq_aload_n rfl rfl ?_
    refine wq_getfield (v := .ref (b + 2)) rfl (mS_o hb) rfl ?_
    refine wq_iconst (v := nI 0) rfl (by decide) ?_
    refine wn_iaload (g := sq) rfl (mS_a3 hb) (by omega) (by decide) ?_
    refine wq_virt (b := b) (a := [.int (nI (sq 0))]) (rest := []) rfl rfl rfl rfl rfl (mS_o hb) ?_
    rw [hs0]
    refine r_R_runs hb hSB hV hRR (k := rn) (by omega) ?_
    intro th1 pcs1 brs1 be1 po1 ro1 kf1 bg1 en1 hS hSB1
    have hTV := stP (k := rn) hV (by omega)
    have hth1 : th1 < 512 := by rw [hS.1]; exact hTV.1.1
    have hbe1 : ∀ p, p < 9 → be1 p < 512 := fun p hp => by rw [hS.2.1 p hp]; exact hTV.1.2.1.1 p hp
    have hpc1 : pcs1 < 512 := hS.2.2.1.1
    have hpo1 : ∀ p, p < 9 → po1 p < 9 := hS.2.2.1.2.1
    have hed := sim_ed hTV hS.2.1
    have hnp := npT_eq hTV.1.2.1 hS.2.2.1
    show WP _ _ _ _ 27 [.ref b, .int (nI w)] [.int (nI 1)] (mR b pre 0 tl un kn ap wb tx sq pa ke to wg we th1 pcs1 brs1 be1 po1 ro1 kf1 bg1 en1)
    refine wq_pop rfl rfl ?_
    refine wq_iload_n rfl rfl ?_
    refine wn_if_ne rfl (by omega) (fun c29 => ?_) (fun c29 => ?_)
    · skip
      refine wq_iload_n rfl rfl ?_
      refine wq_iconst (v := nI 1) rfl (by decide) ?_
      refine wn_ic_ne rfl (by omega) (by omega) (fun c43 => ?_) (fun c43 => ?_)
      · skip
        refine wq_iload_n rfl rfl ?_
        refine wq_iconst (v := nI 2) rfl (by decide) ?_
        refine wn_ic_ne rfl (by omega) (by omega) (fun c58 => ?_) (fun c58 => ?_)
        · skip
          refine wq_iload_n rfl rfl ?_
          refine wq_iconst (v := nI 3) rfl (by decide) ?_
          refine wn_ic_ne rfl (by omega) (by omega) (fun c70 => ?_) (fun c70 => ?_)
          · skip
            refine wq_iload_n rfl rfl ?_
            refine wq_iconst (v := nI 4) rfl (by decide) ?_
            refine wn_ic_ne rfl (by omega) (by omega) (fun c85 => ?_) (fun c85 => ?_)
            · skip
              refine wq_iload_n rfl rfl ?_
              refine wq_iconst (v := nI 5) rfl (by decide) ?_
              refine wn_ic_ne rfl (by omega) (by omega) (fun c97 => ?_) (fun c97 => ?_)
              · skip
                refine wq_aload_n rfl rfl ?_
                refine wq_getfield (v := .int (nI kn)) rfl (mS_o hb) rfl ?_
                refine wq_iret rfl trivial ?_
                exact fin_ (A' := (tl, ta, (rn, ra), un, ua, kn, ka)) hQ (by unfold f_count; (try dsimp only); (repeat first | rw [if_pos (by omega)] | rw [if_neg (by omega)]); try rfl) ⟨_, _, _, _, _, _, _, _, _, _, _, _, _, _, _, _, _, _, _, rfl, hI0, hSB1⟩
              · skip
                refine wq_aload_n rfl rfl ?_
                refine wq_getfield (v := .int (nI tl)) rfl (mS_o hb) rfl ?_
                refine wq_goto rfl ?_
                refine wq_iret rfl trivial ?_
                exact fin_ (A' := (tl, ta, (rn, ra), un, ua, kn, ka)) hQ (by unfold f_count; (try dsimp only); (repeat first | rw [if_pos (by omega)] | rw [if_neg (by omega)]); try rfl) ⟨_, _, _, _, _, _, _, _, _, _, _, _, _, _, _, _, _, _, _, rfl, hI0, hSB1⟩
            · skip
              refine wq_aload_n rfl rfl ?_
              refine wq_getfield (v := .int (nI un)) rfl (mS_o hb) rfl ?_
              refine wq_goto rfl ?_
              refine wq_iret rfl trivial ?_
              exact fin_ (A' := (tl, ta, (rn, ra), un, ua, kn, ka)) hQ (by unfold f_count; (try dsimp only); (repeat first | rw [if_pos (by omega)] | rw [if_neg (by omega)]); try rfl) ⟨_, _, _, _, _, _, _, _, _, _, _, _, _, _, _, _, _, _, _, rfl, hI0, hSB1⟩
          · skip
            refine wq_aload_n rfl rfl ?_
            refine wq_getfield (v := .int (nI pcs1)) rfl (mS_o hb) rfl ?_
            refine wq_stat (a := [.int (nI pcs1)]) (rest := []) rfl rfl rfl rfl rfl ?_
            refine r_M_bits (by omega) ?_
            show WP _ _ _ _ 80 [.ref b, .int (nI w)] [.int (nI (popc pcs1 9))] (mR b pre 0 tl un kn ap wb tx sq pa ke to wg we th1 pcs1 brs1 be1 po1 ro1 kf1 bg1 en1)
            refine wq_goto rfl ?_
            refine wq_iret rfl trivial ?_
            rw [hnp]
            exact fin_ (A' := (tl, ta, (rn, ra), un, ua, kn, ka)) hQ (by unfold f_count; (try dsimp only); (repeat first | rw [if_pos (by omega)] | rw [if_neg (by omega)]); try rfl) ⟨_, _, _, _, _, _, _, _, _, _, _, _, _, _, _, _, _, _, _, rfl, hI0, hSB1⟩
        · skip
          refine wq_aload_n rfl rfl ?_
          refine wq_virt (b := b) (a := []) (rest := []) rfl rfl rfl rfl rfl (mS_o hb) ?_
          refine r_M_edges hb hbe1 ?_
          show WP _ _ _ _ 65 [.ref b, .int (nI w)] [.int (nI (esum be1 9 / 2))] (mR b pre 0 tl un kn ap wb tx sq pa ke to wg we th1 pcs1 brs1 be1 po1 ro1 kf1 bg1 en1)
          refine wq_goto rfl ?_
          refine wq_iret rfl trivial ?_
          rw [hed]
          exact fin_ (A' := (tl, ta, (rn, ra), un, ua, kn, ka)) hQ (by unfold f_count; (try dsimp only); (repeat first | rw [if_pos (by omega)] | rw [if_neg (by omega)]); try rfl) ⟨_, _, _, _, _, _, _, _, _, _, _, _, _, _, _, _, _, _, _, rfl, hI0, hSB1⟩
      · skip
        refine wq_aload_n rfl rfl ?_
        refine wq_getfield (v := .int (nI th1)) rfl (mS_o hb) rfl ?_
        refine wq_stat (a := [.int (nI th1)]) (rest := []) rfl rfl rfl rfl rfl ?_
        refine r_M_bits (by omega) ?_
        show WP _ _ _ _ 53 [.ref b, .int (nI w)] [.int (nI (popc th1 9))] (mR b pre 0 tl un kn ap wb tx sq pa ke to wg we th1 pcs1 brs1 be1 po1 ro1 kf1 bg1 en1)
        refine wq_goto rfl ?_
        refine wq_iret rfl trivial ?_
        rw [hS.1]
        exact fin_ (A' := (tl, ta, (rn, ra), un, ua, kn, ka)) hQ (by unfold f_count; (try dsimp only); (repeat first | rw [if_pos (by omega)] | rw [if_neg (by omega)]); try rfl) ⟨_, _, _, _, _, _, _, _, _, _, _, _, _, _, _, _, _, _, _, rfl, hI0, hSB1⟩
    · skip
      refine wq_aload_n rfl rfl ?_
      refine wq_getfield (v := .ref (b + 2)) rfl (mS_o hb) rfl ?_
      refine wq_iconst (v := nI 0) rfl (by decide) ?_
      refine wn_iaload (g := sq) rfl (mS_a3 hb) (by omega) (by decide) ?_
      refine wq_goto rfl ?_
      refine wq_iret rfl trivial ?_
      rw [hs0]
      exact fin_ (A' := (tl, ta, (rn, ra), un, ua, kn, ka)) hQ (by unfold f_count; (try dsimp only); (repeat first | rw [if_pos (by omega)] | rw [if_neg (by omega)]); try rfl) ⟨_, _, _, _, _, _, _, _, _, _, _, _, _, _, _, _, _, _, _, rfl, hI0, hSB1⟩
  · skip
    show WP _ _ _ _ 12 [.ref b, .int (nI w)] [.int (nI 0)] (mR b pre 0 tl un kn ap wb tx sq pa ke to wg we th pcs brs be po ro kf bg en)
    refine wq_if_ne rfl (fun c => absurd c (by decide)) (fun _ => ?_)
    refine wq_iconst (v := (-1)) rfl (by decide) ?_
    refine wq_iret rfl trivial ?_
    exact fin_ (A' := (tl, ta, (rn, ra), un, ua, kn, ka)) hQ (by unfold f_count; (try dsimp only); (repeat first | rw [if_pos (by omega)] | rw [if_neg (by omega)]); try rfl) ⟨_, _, _, _, _, _, _, _, _, _, _, _, _, _, _, _, _, _, _, rfl, hI0, hSB⟩
theorem R_count_neg {d b : Nat} {pre : mH} {A : AS} {h : mH} {Q : Option Value → mH → Prop} (hb : pre.length = b) (hR : RIA b pre A h) {v1 : Int32} (hneg : v1 < 0) (hQ : ∀ h', RIA b pre A h' → Q (some (.int (-1))) h') : Rn mprog (d + 7) n_M_count [.ref b, .int v1] h Q := by
  obtain ⟨tl, ta, ⟨rn, ra⟩, un, ua, kn, ka⟩ := A
  obtain ⟨tn, ap, wb, tx, sq, pa, ke, to, wg, we, th, pcs, brs, be, po, ro, kf, bg, en, rfl, hI, hSB⟩ := hR
  have hI0 := hI
  obtain ⟨hl, htx, hV, hRR, hu, hU, hk, hK⟩ := hI
  dsimp only at hl htx hV hRR hu hU hk hK
  have hs0 : sq 0 = rn := hRR.1
  have hrn : rn ≤ 40 := hV.1
  refine Rn.in rfl rfl rfl ?_
  show WP _ _ _ _ 0 [.ref b, .int v1] [] (mR b pre tn tl un kn ap wb tx sq pa ke to wg we th pcs brs be po ro kf bg en)
  refine wq_aload_n rfl rfl ?_
  refine wq_iconst (v := nI 0) rfl (by decide) ?_
  refine wq_putfield (h' := mR b pre 0 tl un kn ap wb tx sq pa ke to wg we th pcs brs be po ro kf bg en) rfl (mS_o hb) rfl (mS_s0 hb) ?_
  refine wq_iload_n rfl rfl ?_
  refine wq_iconst (v := nI 0) rfl (by decide) ?_
  refine wq_bipush (v := nI 6) rfl (by decide) ?_
  refine wq_stat (a := [.int v1, .int (nI 0), .int (nI 6)]) (rest := []) rfl rfl rfl rfl rfl ?_
  refine r_M_in (fun c9 => absurd c9 (fun z => (fun q => nI_ngl q (by decide) z.1) hneg)) (fun c9 => ?_)
  show WP _ _ _ _ 12 [.ref b, .int v1] [.int (nI 0)] (mR b pre 0 tl un kn ap wb tx sq pa ke to wg we th pcs brs be po ro kf bg en)
  refine wq_if_ne rfl (fun c => absurd c (by decide)) (fun _ => ?_)
  refine wq_iconst (v := (-1)) rfl (by decide) ?_
  refine wq_iret rfl trivial ?_
  exact hQ _ ⟨_, _, _, _, _, _, _, _, _, _, _, _, _, _, _, _, _, _, _, rfl, hI0, hSB⟩
