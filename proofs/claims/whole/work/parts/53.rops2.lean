/-! the reference: calls that copy, compare, spell -/
theorem l_M_lay {d b : Nat} {pre : mH} {tn : Nat} {lt : Nat} {un : Nat} {kp : Nat} {ap : Nat} {wb : Nat} {tx : Nat → Nat} {pa : Nat → Nat} {ke : Nat → Nat} {to : Nat → Nat} {wg : Nat → Nat} {we : Nat → Nat} {th : Nat} {pcs : Nat} {brs : Nat} {be : Nat → Nat} {po : Nat → Nat} {ro : Nat → Nat} {kf : Nat → Nat → Nat} {bg : Nat → Nat} {en : Nat → Nat} {Q : Option Value → mH → Prop} (hb : pre.length = b)  (K : ∀ (sq : Nat → Nat) , (∀ j, j < 41 → sq j = to j) → WP (Rn mprog (d + 0)) k_M_lay (some .int) Q 43 [.ref b, .int (nI 41)] [] (mR b pre tn lt un kp ap wb tx sq pa ke to wg we th pcs brs be po ro kf bg en)) : ∀ (m i : Nat) (sq : Nat → Nat) , i + m = 41 → (∀ j, j < i → sq j = to j) → WP (Rn mprog (d + 0)) k_M_lay (some .int) Q 19 [.ref b, .int (nI i)] [] (mR b pre tn lt un kp ap wb tx sq pa ke to wg we th pcs brs be po ro kf bg en) := by
  intro m
  induction m with
  | zero =>
    intro i sq hi hv
    have e : i = 41 := by omega
    subst e
    refine wq_iload_n rfl rfl ?_
    refine wq_bipush (v := nI 41) rfl (by decide) ?_
    refine wq_ic_ge rfl (fun _ => ?_) (fun c => absurd c (by decide))
    exact K sq hv
  | succ m ih =>
    intro i sq hi hv
    refine wq_iload_n rfl rfl ?_
    refine wq_bipush (v := nI 41) rfl (by decide) ?_
    refine wn_ic_ge rfl (by omega) (by omega) (fun c22 => absurd c22 (by omega)) (fun c22 => ?_)
    refine wq_aload_n rfl rfl ?_
    refine wq_getfield (v := .ref (b + 2)) rfl (mS_o hb) rfl ?_
    refine wq_iload_n rfl rfl ?_
    refine wq_aload_n rfl rfl ?_
    refine wq_getfield (v := .ref (b + 11)) rfl (mS_o hb) rfl ?_
    refine wq_iload_n rfl rfl ?_
    refine wn_iaload (g := to) rfl (mS_a17 hb) (by omega) (by decide) ?_
    refine wn_iastore (g := sq) (h' := mR b pre tn lt un kp ap wb tx (uN' sq i (to i)) pa ke to wg we th pcs brs be po ro kf bg en) rfl (mS_a3 hb) (by omega) (by decide) (mS_t3 hb) ?_
    refine wn_inc (lv' := [.ref b, .int (nI (i + 1))]) rfl rfl rfl ?_
    refine wq_goto rfl ?_
    exact ih (i + 1) _ (by omega) (fun j hj => if e : j = i then (by rw [e, uN_s]) else (by rw [uN_n e, hv j (by omega)]))
theorem rdg_lt {tl : Nat} {ta : Nat → Nat} {p : Nat} : ∀ t k q ra, (rdg tl ta t k q ra).1 = some p → p < tl
  | 0, _, _, _, h => by cases h
  | t + 1, k, q, ra, h => by
    by_cases e : q < tl
    · cases z : itA tl ta q with
      | none => rw [rdg_bad e z] at h; cases h; exact e
      | some ac =>
        by_cases y : k < 40 ∧ mayT (stR ra k) ac = true
        · rw [rdg_go e z y] at h; exact rdg_lt t _ _ _ h
        · rw [rdg_no e z y] at h; cases h; exact e
    · rw [rdg_end (by omega)] at h; cases h
theorem rdA_lt {A : AS} {p : Nat} (h : (rdA A).1 = some p) (hl : A.1 ≤ 200) : p < 2 ^ 31 := by
  have := rdg_lt 41 0 0 _ h
  omega
theorem R_lay {d b : Nat} {pre : mH} {A : AS} {h : mH} {Q : Option Value → mH → Prop} (hb : pre.length = b) (hR : RIA b pre A h)  (hQ : ∀ h', RIA b pre (f_lay A ).2 h' → Q (some (.int (f_lay A ).1)) h') : Rn mprog (d + 7) n_M_lay [.ref b] h Q := by
  obtain ⟨tl, ta, ⟨rn, ra⟩, un, ua, kn, ka⟩ := A
  obtain ⟨tn, ap, wb, tx, sq, pa, ke, to, wg, we, th, pcs, brs, be, po, ro, kf, bg, en, rfl, hI, hSB⟩ := hR
  have hI0 := hI
  obtain ⟨hl, htx, hV, hRR, hu, hU, hk, hK⟩ := hI
  dsimp only at hl htx hV hRR hu hU hk hK
  have hs0 : sq 0 = rn := hRR.1
  have hrn : rn ≤ 40 := hV.1
  refine Rn.in rfl rfl rfl ?_
  show WP _ _ _ _ 0 [.ref b, .long 0] [] (mR b pre tn tl un kn ap wb tx sq pa ke to wg we th pcs brs be po ro kf bg en)
  refine wq_aload_n rfl rfl ?_
  refine wq_iconst (v := nI 0) rfl (by decide) ?_
  refine wq_putfield (h' := mR b pre 0 tl un kn ap wb tx sq pa ke to wg we th pcs brs be po ro kf bg en) rfl (mS_o hb) rfl (mS_s0 hb) ?_
  refine wq_aload_n rfl rfl ?_
  refine wq_virt (b := b) (a := []) (rest := []) rfl rfl rfl rfl rfl (mS_o hb) ?_
  refine r_M_reads hb hl (fun i hi => by rw [(htx i hi).1]; exact (htx i hi).2) hSB (fun _ => 0) ?_
  intro ap1 to1 th1 pcs1 brs1 be1 po1 ro1 kf1 bg1 en1 hRR1 hSB1
  rw [rdA_eq (r := (rn, ra)) (un := un) (kn := kn) (ua := ua) (ka := ka) (fun i hi => (htx i hi).1)] at hRR1 ⊢
  show WP _ _ _ _ 9 [.ref b, .long 0] [.int (opI (rdA (tl, ta, (rn, ra), un, ua, kn, ka)).1)] (mR b pre 0 tl un kn ap1 wb tx sq pa ke to1 wg we th1 pcs1 brs1 be1 po1 ro1 kf1 bg1 en1)
  refine wq_bipush (v := (-4)) rfl (by decide) ?_
  refine wq_ic_eq rfl (fun c11 => ?_) (fun c11 => ?_)
  · skip
    have hno : (rdA (tl, ta, (rn, ra), un, ua, kn, ka)).1 = none := by
      cases hz : (rdA (tl, ta, (rn, ra), un, ua, kn, ka)).1 with
      | none => rfl
      | some p => rw [hz] at c11; exact absurd c11 (nI_n4 (rdA_lt hz hl))
    refine wq_iconst (v := nI 0) rfl (by decide) ?_
    refine wq_istore_n (lv' := [.ref b, .int (nI 0)]) rfl rfl rfl ?_
    refine l_M_lay hb ?_ 41 0 _ rfl (fun j hj => absurd hj (Nat.not_lt_zero j))
    intro sq' hsq'
    show WP _ _ _ _ 43 [.ref b, .int (nI 41)] [] (mR b pre 0 tl un kn ap1 wb tx sq' pa ke to1 wg we th1 pcs1 brs1 be1 po1 ro1 kf1 bg1 en1)
    refine wq_aload_n rfl rfl ?_
    refine wq_iconst (v := nI 0) rfl (by decide) ?_
    refine wq_putfield (h' := mR b pre 0 tl 0 kn ap1 wb tx sq' pa ke to1 wg we th1 pcs1 brs1 be1 po1 ro1 kf1 bg1 en1) rfl (mS_o hb) rfl (mS_s5 hb) ?_
    refine wq_aload_n rfl rfl ?_
    refine wq_getfield (v := .ref (b + 2)) rfl (mS_o hb) rfl ?_
    refine wq_iconst (v := nI 0) rfl (by decide) ?_
    refine wn_iaload (g := sq') rfl (mS_a3 hb) (by omega) (by decide) ?_
    refine wq_iret rfl trivial ?_
    have e0 : sq' 0 = (rdA (tl, ta, (rn, ra), un, ua, kn, ka)).2.1 := by rw [hsq' 0 (by omega)]; exact hRR1.1
    rw [e0]
    exact fin_ (A' := (tl, ta, (rdA (tl, ta, (rn, ra), un, ua, kn, ka)).2, 0, ua, kn, ka)) hQ (by unfold f_lay; (try dsimp only); rw [if_pos hno]) ⟨_, _, _, _, _, _, _, _, _, _, _, _, _, _, _, _, _, _, _, rfl, ⟨hl, htx, rdA_RV _, RR_congr hRR1 (rdA_RV _).1 (fun i hi => (hsq' i (by omega)).symm), Nat.zero_le 6, fun j hj => absurd hj (Nat.not_lt_zero j), hk, hK⟩, hSB1⟩
  · skip
    refine wq_bipush (v := (-2)) rfl (by decide) ?_
    refine wq_iret rfl trivial ?_
    have hne : (rdA (tl, ta, (rn, ra), un, ua, kn, ka)).1 ≠ none := fun z => by rw [z] at c11; exact c11 rfl
    exact fin_ (A' := (tl, ta, (rn, ra), un, ua, kn, ka)) hQ (by unfold f_lay; (try dsimp only); rw [if_neg hne]) ⟨_, _, _, _, _, _, _, _, _, _, _, _, _, _, _, _, _, _, _, rfl, hI0, hSB1⟩
theorem l_M_undo {d b : Nat} {pre : mH} {tn : Nat} {lt : Nat} {un : Nat} {kp : Nat} {ap : Nat} {wb : Nat} {tx : Nat → Nat} {pa : Nat → Nat} {ke : Nat → Nat} {to : Nat → Nat} {wg : Nat → Nat} {we : Nat → Nat} {th : Nat} {pcs : Nat} {brs : Nat} {be : Nat → Nat} {po : Nat → Nat} {ro : Nat → Nat} {kf : Nat → Nat → Nat} {bg : Nat → Nat} {en : Nat → Nat} {Q : Option Value → mH → Prop} (hb : pre.length = b) (hu : un < 6) (K : ∀ (sq : Nat → Nat) , (∀ j, j < 41 → sq j = pa (41 * un + j)) → WP (Rn mprog (d + 0)) k_M_undo (some .int) Q 59 [.ref b, .int (nI 41)] [] (mR b pre tn lt un kp ap wb tx sq pa ke to wg we th pcs brs be po ro kf bg en)) : ∀ (m i : Nat) (sq : Nat → Nat) , i + m = 41 → (∀ j, j < i → sq j = pa (41 * un + j)) → WP (Rn mprog (d + 0)) k_M_undo (some .int) Q 27 [.ref b, .int (nI i)] [] (mR b pre tn lt un kp ap wb tx sq pa ke to wg we th pcs brs be po ro kf bg en) := by
  intro m
  induction m with
  | zero =>
    intro i sq hi hv
    have e : i = 41 := by omega
    subst e
    refine wq_iload_n rfl rfl ?_
    refine wq_bipush (v := nI 41) rfl (by decide) ?_
    refine wq_ic_ge rfl (fun _ => ?_) (fun c => absurd c (by decide))
    exact K sq hv
  | succ m ih =>
    intro i sq hi hv
    refine wq_iload_n rfl rfl ?_
    refine wq_bipush (v := nI 41) rfl (by decide) ?_
    refine wn_ic_ge rfl (by omega) (by omega) (fun c30 => absurd c30 (by omega)) (fun c30 => ?_)
    refine wq_aload_n rfl rfl ?_
    refine wq_getfield (v := .ref (b + 2)) rfl (mS_o hb) rfl ?_
    refine wq_iload_n rfl rfl ?_
    refine wq_aload_n rfl rfl ?_
    refine wq_getfield (v := .ref (b + 3)) rfl (mS_o hb) rfl ?_
    refine wq_bipush (v := nI 41) rfl (by decide) ?_
    refine wq_aload_n rfl rfl ?_
    refine wq_getfield (v := .int (nI un)) rfl (mS_o hb) rfl ?_
    refine wn_imul rfl ?_
    refine wq_iload_n rfl rfl ?_
    refine wn_iadd rfl ?_
    refine wn_iaload (g := pa) rfl (mS_a4 hb) (by omega) (by decide) ?_
    refine wn_iastore (g := sq) (h' := mR b pre tn lt un kp ap wb tx (uN' sq i (pa ((41 * un) + i))) pa ke to wg we th pcs brs be po ro kf bg en) rfl (mS_a3 hb) (by omega) (by decide) (mS_t3 hb) ?_
    refine wn_inc (lv' := [.ref b, .int (nI (i + 1))]) rfl rfl rfl ?_
    refine wq_goto rfl ?_
    exact ih (i + 1) _ (by omega) (fun j hj => if e : j = i then (by rw [e, uN_s]) else (by rw [uN_n e, hv j (by omega)]))
theorem R_undo {d b : Nat} {pre : mH} {A : AS} {h : mH} {Q : Option Value → mH → Prop} (hb : pre.length = b) (hR : RIA b pre A h)  (hQ : ∀ h', RIA b pre (f_undo A ).2 h' → Q (some (.int (f_undo A ).1)) h') : Rn mprog (d + 7) n_M_undo [.ref b] h Q := by
  obtain ⟨tl, ta, ⟨rn, ra⟩, un, ua, kn, ka⟩ := A
  obtain ⟨tn, ap, wb, tx, sq, pa, ke, to, wg, we, th, pcs, brs, be, po, ro, kf, bg, en, rfl, hI, hSB⟩ := hR
  have hI0 := hI
  obtain ⟨hl, htx, hV, hRR, hu, hU, hk, hK⟩ := hI
  dsimp only at hl htx hV hRR hu hU hk hK
  have hs0 : sq 0 = rn := hRR.1
  have hrn : rn ≤ 40 := hV.1
  refine Rn.in rfl rfl rfl ?_
  show WP _ _ _ _ 0 [.ref b, .long 0] [] (mR b pre tn tl un kn ap wb tx sq pa ke to wg we th pcs brs be po ro kf bg en)
  refine wq_aload_n rfl rfl ?_
  refine wq_iconst (v := nI 0) rfl (by decide) ?_
  refine wq_putfield (h' := mR b pre 0 tl un kn ap wb tx sq pa ke to wg we th pcs brs be po ro kf bg en) rfl (mS_o hb) rfl (mS_s0 hb) ?_
  refine wq_aload_n rfl rfl ?_
  refine wq_getfield (v := .int (nI un)) rfl (mS_o hb) rfl ?_
  refine wn_if_ne rfl (by omega) (fun c9 => ?_) (fun c9 => ?_)
  · skip
    refine wq_aload_n rfl rfl ?_
    refine wq_dup rfl rfl ?_
    refine wq_getfield (v := .int (nI un)) rfl (mS_o hb) rfl ?_
    refine wq_iconst (v := nI 1) rfl (by decide) ?_
    refine wn_isub rfl (by omega) ?_
    refine wq_putfield (h' := mR b pre 0 tl (un - 1) kn ap wb tx sq pa ke to wg we th pcs brs be po ro kf bg en) rfl (mS_o hb) rfl (mS_s5 hb) ?_
    refine wq_iconst (v := nI 0) rfl (by decide) ?_
    refine wq_istore_n (lv' := [.ref b, .int (nI 0)]) rfl rfl rfl ?_
    refine l_M_undo hb (by omega) ?_ 41 0 _ rfl (fun j hj => absurd hj (Nat.not_lt_zero j))
    intro sq' hsq'
    show WP _ _ _ _ 59 [.ref b, .int (nI 41)] [] (mR b pre 0 tl (un - 1) kn ap wb tx sq' pa ke to wg we th pcs brs be po ro kf bg en)
    refine wq_aload_n rfl rfl ?_
    refine wq_getfield (v := .int (nI (un - 1))) rfl (mS_o hb) rfl ?_
    refine wq_iret rfl trivial ?_
    obtain ⟨hv1, hv2⟩ := hU (un - 1) (by omega)
    exact fin_ (A' := (tl, ta, ua (un - 1), un - 1, ua, kn, ka)) hQ (by unfold f_undo; (try dsimp only); (repeat first | rw [if_pos (by omega)] | rw [if_neg (by omega)]); try rfl) ⟨_, _, _, _, _, _, _, _, _, _, _, _, _, _, _, _, _, _, _, rfl, ⟨hl, htx, hv1, RR_congr hv2 hv1.1 (fun i hi => (hsq' i (by omega)).symm), (by show un - 1 ≤ 6; omega), fun j hj => hU j (by have : j < un - 1 := hj; omega), hk, hK⟩, hSB⟩
  · skip
    refine wq_bipush (v := (-2)) rfl (by decide) ?_
    refine wq_iret rfl trivial ?_
    exact fin_ (A' := (tl, ta, (rn, ra), un, ua, kn, ka)) hQ (by unfold f_undo; (try dsimp only); (repeat first | rw [if_pos (by omega)] | rw [if_neg (by omega)]); try rfl) ⟨_, _, _, _, _, _, _, _, _, _, _, _, _, _, _, _, _, _, _, rfl, hI0, hSB⟩
theorem l_M_keep {d b : Nat} {pre : mH} {tn : Nat} {lt : Nat} {un : Nat} {kp : Nat} {ap : Nat} {wb : Nat} {tx : Nat → Nat} {sq : Nat → Nat} {pa : Nat → Nat} {to : Nat → Nat} {wg : Nat → Nat} {we : Nat → Nat} {th : Nat} {pcs : Nat} {brs : Nat} {be : Nat → Nat} {po : Nat → Nat} {ro : Nat → Nat} {kf : Nat → Nat → Nat} {bg : Nat → Nat} {en : Nat → Nat} {Q : Option Value → mH → Prop} (hb : pre.length = b) (hk : kp < 2) {ke0 : Nat → Nat} (K : ∀ (ke : Nat → Nat) , ((∀ j, j < 41 → ke (41 * kp + j) = sq j) ∧ ∀ j, j < 41 * kp → ke j = ke0 j) → WP (Rn mprog (d + 0)) k_M_keep (some .int) Q 50 [.ref b, .int (nI 41)] [] (mR b pre tn lt un kp ap wb tx sq pa ke to wg we th pcs brs be po ro kf bg en)) : ∀ (m i : Nat) (ke : Nat → Nat) , i + m = 41 → ((∀ j, j < i → ke (41 * kp + j) = sq j) ∧ ∀ j, j < 41 * kp → ke j = ke0 j) → WP (Rn mprog (d + 0)) k_M_keep (some .int) Q 18 [.ref b, .int (nI i)] [] (mR b pre tn lt un kp ap wb tx sq pa ke to wg we th pcs brs be po ro kf bg en) := by
  intro m
  induction m with
  | zero =>
    intro i ke hi hv
    have e : i = 41 := by omega
    subst e
    refine wq_iload_n rfl rfl ?_
    refine wq_bipush (v := nI 41) rfl (by decide) ?_
    refine wq_ic_ge rfl (fun _ => ?_) (fun c => absurd c (by decide))
    exact K ke hv
  | succ m ih =>
    intro i ke hi hv
    refine wq_iload_n rfl rfl ?_
    refine wq_bipush (v := nI 41) rfl (by decide) ?_
    refine wn_ic_ge rfl (by omega) (by omega) (fun c21 => absurd c21 (by omega)) (fun c21 => ?_)
    refine wq_aload_n rfl rfl ?_
    refine wq_getfield (v := .ref (b + 4)) rfl (mS_o hb) rfl ?_
    refine wq_bipush (v := nI 41) rfl (by decide) ?_
    refine wq_aload_n rfl rfl ?_
    refine wq_getfield (v := .int (nI kp)) rfl (mS_o hb) rfl ?_
    refine wn_imul rfl ?_
    refine wq_iload_n rfl rfl ?_
    refine wn_iadd rfl ?_
    refine wq_aload_n rfl rfl ?_
    refine wq_getfield (v := .ref (b + 2)) rfl (mS_o hb) rfl ?_
    refine wq_iload_n rfl rfl ?_
    refine wn_iaload (g := sq) rfl (mS_a3 hb) (by omega) (by decide) ?_
    refine wn_iastore (g := ke) (h' := mR b pre tn lt un kp ap wb tx sq pa (uN' ke ((41 * kp) + i) (sq i)) to wg we th pcs brs be po ro kf bg en) rfl (mS_a6 hb) (by omega) (by decide) (mS_t6 hb) ?_
    refine wn_inc (lv' := [.ref b, .int (nI (i + 1))]) rfl rfl rfl ?_
    refine wq_goto rfl ?_
    exact ih (i + 1) _ (by omega) ⟨fun j hj => if e : j = i then (by rw [e, uN_s]) else (by rw [uN_n (by omega), hv.1 j (by omega)]), fun j hj => by rw [uN_n (by omega)]; exact hv.2 j hj⟩
theorem R_keep {d b : Nat} {pre : mH} {A : AS} {h : mH} {Q : Option Value → mH → Prop} (hb : pre.length = b) (hR : RIA b pre A h)  (hQ : ∀ h', RIA b pre (f_keep A ).2 h' → Q (some (.int (f_keep A ).1)) h') : Rn mprog (d + 7) n_M_keep [.ref b] h Q := by
  obtain ⟨tl, ta, ⟨rn, ra⟩, un, ua, kn, ka⟩ := A
  obtain ⟨tn, ap, wb, tx, sq, pa, ke, to, wg, we, th, pcs, brs, be, po, ro, kf, bg, en, rfl, hI, hSB⟩ := hR
  have hI0 := hI
  obtain ⟨hl, htx, hV, hRR, hu, hU, hk, hK⟩ := hI
  dsimp only at hl htx hV hRR hu hU hk hK
  have hs0 : sq 0 = rn := hRR.1
  have hrn : rn ≤ 40 := hV.1
  refine Rn.in rfl rfl rfl ?_
  show WP _ _ _ _ 0 [.ref b, .long 0] [] (mR b pre tn tl un kn ap wb tx sq pa ke to wg we th pcs brs be po ro kf bg en)
  refine wq_aload_n rfl rfl ?_
  refine wq_iconst (v := nI 0) rfl (by decide) ?_
  refine wq_putfield (h' := mR b pre 0 tl un kn ap wb tx sq pa ke to wg we th pcs brs be po ro kf bg en) rfl (mS_o hb) rfl (mS_s0 hb) ?_
  refine wq_aload_n rfl rfl ?_
  refine wq_getfield (v := .int (nI kn)) rfl (mS_o hb) rfl ?_
  refine wq_iconst (v := nI 2) rfl (by decide) ?_
  refine wn_ic_ne rfl (by omega) (by omega) (fun c10 => ?_) (fun c10 => ?_)
  · skip
    refine wq_iconst (v := nI 0) rfl (by decide) ?_
    refine wq_istore_n (lv' := [.ref b, .int (nI 0)]) rfl rfl rfl ?_
    refine l_M_keep hb (by omega) (ke0 := ke) ?_ 41 0 _ rfl ⟨fun j hj => absurd hj (Nat.not_lt_zero j), fun _ _ => rfl⟩
    intro ke' hke'
    show WP _ _ _ _ 50 [.ref b, .int (nI 41)] [] (mR b pre 0 tl un kn ap wb tx sq pa ke' to wg we th pcs brs be po ro kf bg en)
    refine wq_aload_n rfl rfl ?_
    refine wq_dup rfl rfl ?_
    refine wq_getfield (v := .int (nI kn)) rfl (mS_o hb) rfl ?_
    refine wq_iconst (v := nI 1) rfl (by decide) ?_
    refine wn_iadd rfl ?_
    refine wq_putfield (h' := mR b pre 0 tl un (kn + 1) ap wb tx sq pa ke' to wg we th pcs brs be po ro kf bg en) rfl (mS_o hb) rfl (mS_s7 hb) ?_
    refine wq_aload_n rfl rfl ?_
    refine wq_getfield (v := .int (nI (kn + 1))) rfl (mS_o hb) rfl ?_
    refine wq_iret rfl trivial ?_
    have hK2 : ∀ j, j < kn + 1 → RV (if j < kn then ka j else (rn, ra)) ∧ RR (fun i => ke' (41 * j + i)) (if j < kn then ka j else (rn, ra)) := fun j hj => by
      by_cases e : j < kn
      · rw [if_pos e]; obtain ⟨q1, q2⟩ := hK j e; exact ⟨q1, RR_congr q2 q1.1 (fun i hi => (hke'.2 _ (by omega)).symm)⟩
      · rw [if_neg e]; have ej : j = kn := by omega
        rw [ej]; exact ⟨hV, RR_congr hRR hV.1 (fun i hi => (hke'.1 i (by omega)).symm)⟩
    exact fin_ (A' := (tl, ta, (rn, ra), un, ua, kn + 1, fun j => if j < kn then ka j else (rn, ra))) hQ (by unfold f_keep; (try dsimp only); (repeat first | rw [if_pos (by omega)] | rw [if_neg (by omega)]); try rfl) ⟨_, _, _, _, _, _, _, _, _, _, _, _, _, _, _, _, _, _, _, rfl, ⟨hl, htx, hV, hRR, hu, hU, (by show kn + 1 ≤ 2; omega), hK2⟩, hSB⟩
  · skip
    refine wq_bipush (v := (-3)) rfl (by decide) ?_
    refine wq_iret rfl trivial ?_
    exact fin_ (A' := (tl, ta, (rn, ra), un, ua, kn, ka)) hQ (by unfold f_keep; (try dsimp only); (repeat first | rw [if_pos (by omega)] | rw [if_neg (by omega)]); try rfl) ⟨_, _, _, _, _, _, _, _, _, _, _, _, _, _, _, _, _, _, _, rfl, hI0, hSB⟩
theorem cpA_in {g r : Nat → Nat} {i j : Nat} (h : j < i) : cpA g r i j = g j := if_pos h
theorem over_sq {ke sq : Nat → Nat} {off : Nat} : cpA (fun j => blk ke off sq 41 (off + j)) (cpA (fun j => ke (off + j)) sq 41) 41 = sq := by
  funext j
  unfold cpA blk
  by_cases e : j < 41
  · rw [if_pos e]; dsimp only; rw [if_pos (by omega)]; congr 1; omega
  · rw [if_neg e, if_neg e]
theorem over_ke {ke sq : Nat → Nat} {off : Nat} : blk (blk ke off sq 41) off (cpA (fun j => ke (off + j)) sq 41) 41 = ke := by
  funext j
  unfold cpA blk
  by_cases e : off ≤ j ∧ j < off + 41
  · rw [if_pos e]; dsimp only; rw [if_pos (by omega)]; congr 1; omega
  · rw [if_neg e, if_neg e]
theorem over_RR {ke sq : Nat → Nat} {kn : Nat} {r : Rw} (h1 : RV r) (h2 : RR (fun i => ke (41 * (kn - 1) + i)) r) (hk : 1 ≤ kn) : RR (cpA (fun j => ke (41 * kn - 41 + j)) sq 41) r :=
  RR_congr h2 h1.1 (fun i hi => by rw [cpA_in (by omega)]; show ke _ = ke _; congr 1; omega)
theorem BL_cp {n : Nat} {f g wg we : Nat → Nat} {l : List (Nat × Nat)} (h : BL n f g l) : BL n (cpA f wg n) (cpA g we n) l := ⟨h.1, fun i hi => by rw [cpA_in hi, cpA_in hi]; exact h.2 i hi⟩
theorem R_back {d b : Nat} {pre : mH} {A : AS} {h : mH} {Q : Option Value → mH → Prop} (hb : pre.length = b) (hR : RIA b pre A h)  (hQ : ∀ h', RIA b pre (f_back A ).2 h' → Q (some (.int (f_back A ).1)) h') : Rn mprog (d + 7) n_M_back [.ref b] h Q := by
  obtain ⟨tl, ta, ⟨rn, ra⟩, un, ua, kn, ka⟩ := A
  obtain ⟨tn, ap, wb, tx, sq, pa, ke, to, wg, we, th, pcs, brs, be, po, ro, kf, bg, en, rfl, hI, hSB⟩ := hR
  have hI0 := hI
  obtain ⟨hl, htx, hV, hRR, hu, hU, hk, hK⟩ := hI
  dsimp only at hl htx hV hRR hu hU hk hK
  have hs0 : sq 0 = rn := hRR.1
  have hrn : rn ≤ 40 := hV.1
  refine Rn.in rfl rfl rfl ?_
  show WP _ _ _ _ 0 [.ref b] [] (mR b pre tn tl un kn ap wb tx sq pa ke to wg we th pcs brs be po ro kf bg en)
  refine wq_aload_n rfl rfl ?_
  refine wq_iconst (v := nI 0) rfl (by decide) ?_
  refine wq_putfield (h' := mR b pre 0 tl un kn ap wb tx sq pa ke to wg we th pcs brs be po ro kf bg en) rfl (mS_o hb) rfl (mS_s0 hb) ?_
  refine wq_aload_n rfl rfl ?_
  refine wq_getfield (v := .int (nI kn)) rfl (mS_o hb) rfl ?_
  refine wn_if_ne rfl (by omega) (fun c9 => ?_) (fun c9 => ?_)
  · skip
    refine wq_aload_n rfl rfl ?_
    refine wq_virt (b := b) (a := []) (rest := []) rfl rfl rfl rfl rfl (mS_o hb) ?_
    refine r_M_over hb (by omega) hk ?_
    show WP _ _ _ _ 19 [.ref b] [] (mR b pre 0 tl un kn ap wb tx (cpA (fun j => ke (41 * kn - 41 + j)) sq 41) pa (blk ke (41 * kn - 41) sq 41) to wg we th pcs brs be po ro kf bg en)
    refine wq_aload_n rfl rfl ?_
    refine wq_dup rfl rfl ?_
    refine wq_getfield (v := .int (nI kn)) rfl (mS_o hb) rfl ?_
    refine wq_iconst (v := nI 1) rfl (by decide) ?_
    refine wn_isub rfl (by omega) ?_
    refine wq_putfield (h' := mR b pre 0 tl un (kn - 1) ap wb tx (cpA (fun j => ke (41 * kn - 41 + j)) sq 41) pa (blk ke (41 * kn - 41) sq 41) to wg we th pcs brs be po ro kf bg en) rfl (mS_o hb) rfl (mS_s7 hb) ?_
    refine wq_aload_n rfl rfl ?_
    refine wq_iconst (v := nI 0) rfl (by decide) ?_
    refine wq_putfield (h' := mR b pre 0 tl 0 (kn - 1) ap wb tx (cpA (fun j => ke (41 * kn - 41 + j)) sq 41) pa (blk ke (41 * kn - 41) sq 41) to wg we th pcs brs be po ro kf bg en) rfl (mS_o hb) rfl (mS_s5 hb) ?_
    refine wq_aload_n rfl rfl ?_
    refine wq_getfield (v := .int (nI (kn - 1))) rfl (mS_o hb) rfl ?_
    refine wq_iret rfl trivial ?_
    obtain ⟨hv1, hv2⟩ := hK (kn - 1) (by omega)
    exact fin_ (A' := (tl, ta, ka (kn - 1), 0, ua, kn - 1, ka)) hQ (by unfold f_back; (try dsimp only); (repeat first | rw [if_pos (by omega)] | rw [if_neg (by omega)]); try rfl) ⟨_, _, _, _, _, _, _, _, _, _, _, _, _, _, _, _, _, _, _, rfl, ⟨hl, htx, hv1, over_RR hv1 hv2 (by omega), Nat.zero_le 6, fun j hj => absurd hj (Nat.not_lt_zero j), (by show kn - 1 ≤ 2; omega), fun j hj => by have hj : j < kn - 1 := hj; obtain ⟨q1, q2⟩ := hK j (by omega); exact ⟨q1, RR_congr q2 q1.1 (fun i hi => by show ke _ = blk _ _ _ _ _; unfold blk; rw [if_neg (by omega)])⟩⟩, hSB⟩
  · skip
    refine wq_bipush (v := (-2)) rfl (by decide) ?_
    refine wq_iret rfl trivial ?_
    exact fin_ (A' := (tl, ta, (rn, ra), un, ua, kn, ka)) hQ (by unfold f_back; (try dsimp only); (repeat first | rw [if_pos (by omega)] | rw [if_neg (by omega)]); try rfl) ⟨_, _, _, _, _, _, _, _, _, _, _, _, _, _, _, _, _, _, _, rfl, hI0, hSB⟩
theorem R_other {d b : Nat} {pre : mH} {A : AS} {h : mH} {Q : Option Value → mH → Prop} (hb : pre.length = b) (hR : RIA b pre A h)  (hQ : ∀ h', RIA b pre (f_other A ).2 h' → Q (some (.int (f_other A ).1)) h') : Rn mprog (d + 7) n_M_other [.ref b] h Q := by
  obtain ⟨tl, ta, ⟨rn, ra⟩, un, ua, kn, ka⟩ := A
  obtain ⟨tn, ap, wb, tx, sq, pa, ke, to, wg, we, th, pcs, brs, be, po, ro, kf, bg, en, rfl, hI, hSB⟩ := hR
  have hI0 := hI
  obtain ⟨hl, htx, hV, hRR, hu, hU, hk, hK⟩ := hI
  dsimp only at hl htx hV hRR hu hU hk hK
  have hs0 : sq 0 = rn := hRR.1
  have hrn : rn ≤ 40 := hV.1
  refine Rn.in rfl rfl rfl ?_
  show WP _ _ _ _ 0 [.ref b, .long 0] [] (mR b pre tn tl un kn ap wb tx sq pa ke to wg we th pcs brs be po ro kf bg en)
  refine wq_aload_n rfl rfl ?_
  refine wq_iconst (v := nI 0) rfl (by decide) ?_
  refine wq_putfield (h' := mR b pre 0 tl un kn ap wb tx sq pa ke to wg we th pcs brs be po ro kf bg en) rfl (mS_o hb) rfl (mS_s0 hb) ?_
  refine wq_aload_n rfl rfl ?_
  refine wq_getfield (v := .int (nI kn)) rfl (mS_o hb) rfl ?_
  refine wn_if_ne rfl (by omega) (fun c9 => ?_) (fun c9 => ?_)
  · skip
    refine wq_aload_n rfl rfl ?_
    refine wq_virt (b := b) (a := []) (rest := []) rfl rfl rfl rfl rfl (mS_o hb) ?_
    refine r_R_all hb hSB hrn hV.2.1 hRR (fun _ th1 pcs1 brs1 be1 po1 ro1 kf1 bg1 en1 hB1 hSB1 => ?_) (fun z => absurd hV.2.2 z)
    obtain ⟨hn1, hq1⟩ := BL_BQ hV hB1
    have hbv1 := BL_BV hV hB1
    obtain ⟨ll1, ll2⟩ := BL_l hB1
    show WP _ _ _ _ 19 [.ref b, .long 0] [.int (nI 1)] (mR b pre 0 tl un kn ap wb tx sq pa ke to wg we th1 pcs1 brs1 be1 po1 ro1 kf1 bg1 en1)
    refine wq_pop rfl rfl ?_
    refine wq_aload_n rfl rfl ?_
    refine wq_virt (b := b) (a := []) (rest := []) rfl rfl rfl rfl rfl (mS_o hb) ?_
    refine r_M_sets hb hn1 ?_
    show WP _ _ _ _ 24 [.ref b, .long 0] [] (mR b pre 0 tl un kn ap brs1 tx sq pa ke to (cpA bg1 wg brs1) (cpA en1 we brs1) th1 pcs1 brs1 be1 po1 ro1 kf1 bg1 en1)
    refine wq_aload_n rfl rfl ?_
    refine wq_virt (b := b) (a := []) (rest := []) rfl rfl rfl rfl rfl (mS_o hb) ?_
    refine r_M_over hb (by omega) hk ?_
    show WP _ _ _ _ 28 [.ref b, .long 0] [] (mR b pre 0 tl un kn ap brs1 tx (cpA (fun j => ke (41 * kn - 41 + j)) sq 41) pa (blk ke (41 * kn - 41) sq 41) to (cpA bg1 wg brs1) (cpA en1 we brs1) th1 pcs1 brs1 be1 po1 ro1 kf1 bg1 en1)
    refine wq_aload_n rfl rfl ?_
    refine wq_virt (b := b) (a := []) (rest := []) rfl rfl rfl rfl rfl (mS_o hb) ?_
    obtain ⟨hv1, hv2⟩ := hK (kn - 1) (by omega)
    refine r_R_all hb hSB1 (rn := (ka (kn - 1)).1) (ra := (ka (kn - 1)).2) hv1.1 hv1.2.1 (over_RR hv1 hv2 (by omega)) (fun _ th2 pcs2 brs2 be2 po2 ro2 kf2 bg2 en2 hB2 hSB2 => ?_) (fun z => absurd hv1.2.2 z)
    obtain ⟨hn2, hq2⟩ := BL_BQ hv1 hB2
    have hbv2 := BL_BV hv1 hB2
    show WP _ _ _ _ 32 [.ref b, .long 0] [.int (nI 1)] (mR b pre 0 tl un kn ap brs1 tx (cpA (fun j => ke (41 * kn - 41 + j)) sq 41) pa (blk ke (41 * kn - 41) sq 41) to (cpA bg1 wg brs1) (cpA en1 we brs1) th2 pcs2 brs2 be2 po2 ro2 kf2 bg2 en2)
    refine wq_pop rfl rfl ?_
    refine wq_aload_n rfl rfl ?_
    refine wq_virt (b := b) (a := []) (rest := []) rfl rfl rfl rfl rfl (mS_o hb) ?_
    refine r_M_others hb hn2 hn1 hbv2 (fun i hi => by rw [cpA_in hi, cpA_in hi]; exact hbv1 i hi) ?_
    show WP _ _ _ _ 37 [.ref b, .long 0] [.int (nI (brs1 - pzz (cpA bg1 wg brs1) (cpA en1 we brs1) bg2 en2 brs1 brs2 (brs1 + brs2) 0 0))] (mR b pre 0 tl un kn ap brs1 tx (cpA (fun j => ke (41 * kn - 41 + j)) sq 41) pa (blk ke (41 * kn - 41) sq 41) to (cpA bg1 wg brs1) (cpA en1 we brs1) th2 pcs2 brs2 be2 po2 ro2 kf2 bg2 en2)
    refine wq_istore_n (lv' := [.ref b, .int (nI (brs1 - pzz (cpA bg1 wg brs1) (cpA en1 we brs1) bg2 en2 brs1 brs2 (brs1 + brs2) 0 0))]) rfl rfl rfl ?_
    refine wq_aload_n rfl rfl ?_
    refine wq_virt (b := b) (a := []) (rest := []) rfl rfl rfl rfl rfl (mS_o hb) ?_
    refine r_M_over hb (by omega) hk ?_
    rw [over_sq, over_ke]
    show WP _ _ _ _ 42 [.ref b, .int (nI (brs1 - pzz (cpA bg1 wg brs1) (cpA en1 we brs1) bg2 en2 brs1 brs2 (brs1 + brs2) 0 0))] [] (mR b pre 0 tl un kn ap brs1 tx sq pa ke to (cpA bg1 wg brs1) (cpA en1 we brs1) th2 pcs2 brs2 be2 po2 ro2 kf2 bg2 en2)
    refine wq_iload_n rfl rfl ?_
    refine wq_iret rfl trivial ?_
    rw [BL_wp (BL_cp hB1) hB2]
    exact fin_ (A' := (tl, ta, (rn, ra), un, ua, kn, ka)) hQ (by unfold f_other; (try dsimp only); (repeat first | rw [if_pos (by omega)] | rw [if_neg (by omega)]); try rfl) ⟨_, _, _, _, _, _, _, _, _, _, _, _, _, _, _, _, _, _, _, rfl, hI0, hSB2⟩
  · skip
    refine wq_bipush (v := (-2)) rfl (by decide) ?_
    refine wq_iret rfl trivial ?_
    exact fin_ (A' := (tl, ta, (rn, ra), un, ua, kn, ka)) hQ (by unfold f_other; (try dsimp only); (repeat first | rw [if_pos (by omega)] | rw [if_neg (by omega)]); try rfl) ⟨_, _, _, _, _, _, _, _, _, _, _, _, _, _, _, _, _, _, _, rfl, hI0, hSB⟩
theorem sw_sw {sq : Nat → Nat} {k : Nat} : uN' (uN' (uN' (uN' sq k (sq (k + 1))) (k + 1) (sq k)) k (uN' (uN' sq k (sq (k + 1))) (k + 1) (sq k) (k + 1))) (k + 1) (uN' (uN' sq k (sq (k + 1))) (k + 1) (sq k) k) = sq := by
  funext j
  by_cases e : j = k + 1
  · rw [e, uN_s, uN_n (by omega), uN_s]
  · rw [uN_n e]
    by_cases e2 : j = k
    · rw [e2, uN_s, uN_s]
    · rw [uN_n e2, uN_n e, uN_n e2]
theorem RR_sw {sq : Nat → Nat} {rn k : Nat} {ra : Nat → Nat} (h : RR sq (rn, ra)) (h1 : 1 ≤ k) (h2 : k < rn) : RR (uN' (uN' sq k (sq (k + 1))) (k + 1) (sq k)) (rn, swA ra k) := by
  refine ⟨?_, fun i hi => ?_⟩
  · rw [uN_n (by omega), uN_n (by omega)]; exact h.1
  · have hi : i < rn := hi
    show _ = cdA (swA ra k i)
    unfold swA
    by_cases e : i = k
    · rw [e, uN_s, uN_s]
      have := h.2 (k - 1) (by show k - 1 < rn; omega)
      rw [show k - 1 + 1 = k by omega] at this
      exact this
    · rw [uN_n (by omega), uN_n e]
      by_cases e2 : i = k - 1
      · rw [e2, uN_s, show k - 1 + 1 = k by omega, uN_s]
        exact h.2 k h2
      · rw [uN_n (by omega), uN_n e2]
        exact h.2 i hi
theorem sw_AV {ra : Nat → Nat} {rn k : Nat} (h : ∀ i, i < rn → AV (ra i)) (h2 : k < rn) : ∀ i, i < rn → AV (swA ra k i) := fun i hi => by
  unfold swA
  by_cases e : i = k
  · rw [e, uN_s]; exact h _ (by omega)
  · rw [uN_n e]
    by_cases e2 : i = k - 1
    · rw [e2, uN_s]; exact h k h2
    · rw [uN_n e2]; exact h i hi
theorem R_exchange0 {d b : Nat} {pre : mH} {A : AS} {h : mH} {Q : Option Value → mH → Prop} (hb : pre.length = b) (hR : RIA b pre A h) (h0 : A.2.2.1.1 = 0) {v : Int32} (hQ : ∀ h', RIA b pre A h' → Q (some (.int (-1))) h') : Rn mprog (d + 7) n_M_exchange [.ref b, .int v] h Q := by
  obtain ⟨tl, ta, ⟨rn, ra⟩, un, ua, kn, ka⟩ := A
  obtain ⟨tn, ap, wb, tx, sq, pa, ke, to, wg, we, th, pcs, brs, be, po, ro, kf, bg, en, rfl, hI, hSB⟩ := hR
  have hI0 := hI
  obtain ⟨hl, htx, hV, hRR, hu, hU, hk, hK⟩ := hI
  dsimp only at hl htx hV hRR hu hU hk hK
  have hs0 : sq 0 = rn := hRR.1
  have hrn : rn ≤ 40 := hV.1
  dsimp only at h0
  refine Rn.in rfl rfl rfl ?_
  show WP _ _ _ _ 0 [.ref b, .int v, .long 0] [] (mR b pre tn tl un kn ap wb tx sq pa ke to wg we th pcs brs be po ro kf bg en)
  refine wq_aload_n rfl rfl ?_
  refine wq_iconst (v := nI 0) rfl (by decide) ?_
  refine wq_putfield (h' := mR b pre 0 tl un kn ap wb tx sq pa ke to wg we th pcs brs be po ro kf bg en) rfl (mS_o hb) rfl (mS_s0 hb) ?_
  refine wq_iload_n rfl rfl ?_
  refine wq_iconst (v := nI 1) rfl (by decide) ?_
  refine wq_aload_n rfl rfl ?_
  refine wq_getfield (v := .ref (b + 2)) rfl (mS_o hb) rfl ?_
  refine wq_iconst (v := nI 0) rfl (by decide) ?_
  refine wn_iaload (g := sq) rfl (mS_a3 hb) (by omega) (by decide) ?_
  refine wq_iconst (v := nI 1) rfl (by decide) ?_
  refine wq_isub (v := (nI (sq 0)) - (nI 1)) rfl rfl ?_
  refine wq_stat (a := [.int v, .int (nI 1), .int ((nI (sq 0)) - (nI 1))]) (rest := []) rfl rfl rfl rfl rfl ?_
  refine r_M_in (fun c15 => absurd c15 (fun z => by rw [hs0, h0] at z; exact absurd (Int32.le_trans z.1 z.2) (by decide))) (fun c15 => ?_)
  show WP _ _ _ _ 18 [.ref b, .int v, .long 0] [.int (nI 0)] (mR b pre 0 tl un kn ap wb tx sq pa ke to wg we th pcs brs be po ro kf bg en)
  refine wq_if_ne rfl (fun c => absurd c (by decide)) (fun _ => ?_)
  refine wq_iconst (v := (-1)) rfl (by decide) ?_
  refine wq_iret rfl trivial ?_
  exact hQ _ ⟨_, _, _, _, _, _, _, _, _, _, _, _, _, _, _, _, _, _, _, rfl, hI0, hSB⟩
theorem R_exch1 {d b : Nat} {pre : mH} {A : AS} {h : mH} {Q : Option Value → mH → Prop} (hb : pre.length = b) (hR : RIA b pre A h) (hr0 : A.2.2.1.1 ≠ 0) {k : Nat} (hk0 : k < 2 ^ 31) (hQ : ∀ h', RIA b pre (f_exch A k).2 h' → Q (some (.int (f_exch A k).1)) h') : Rn mprog (d + 7) n_M_exchange [.ref b, .int (nI k)] h Q := by
  obtain ⟨tl, ta, ⟨rn, ra⟩, un, ua, kn, ka⟩ := A
  obtain ⟨tn, ap, wb, tx, sq, pa, ke, to, wg, we, th, pcs, brs, be, po, ro, kf, bg, en, rfl, hI, hSB⟩ := hR
  have hI0 := hI
  obtain ⟨hl, htx, hV, hRR, hu, hU, hk, hK⟩ := hI
  dsimp only at hl htx hV hRR hu hU hk hK
  have hs0 : sq 0 = rn := hRR.1
  have hrn : rn ≤ 40 := hV.1
  have hr1 : rn ≠ 0 := hr0
  refine Rn.in rfl rfl rfl ?_
  show WP _ _ _ _ 0 [.ref b, .int (nI k), .long 0] [] (mR b pre tn tl un kn ap wb tx sq pa ke to wg we th pcs brs be po ro kf bg en)
  refine wq_aload_n rfl rfl ?_
  refine wq_iconst (v := nI 0) rfl (by decide) ?_
  refine wq_putfield (h' := mR b pre 0 tl un kn ap wb tx sq pa ke to wg we th pcs brs be po ro kf bg en) rfl (mS_o hb) rfl (mS_s0 hb) ?_
  refine wq_iload_n rfl rfl ?_
  refine wq_iconst (v := nI 1) rfl (by decide) ?_
  refine wq_aload_n rfl rfl ?_
  refine wq_getfield (v := .ref (b + 2)) rfl (mS_o hb) rfl ?_
  refine wq_iconst (v := nI 0) rfl (by decide) ?_
  refine wn_iaload (g := sq) rfl (mS_a3 hb) (by omega) (by decide) ?_
  refine wq_iconst (v := nI 1) rfl (by decide) ?_
  refine wn_isub rfl (by omega) ?_
  refine wq_stat (a := [.int (nI k), .int (nI 1), .int (nI ((sq 0) - 1))]) (rest := []) rfl rfl rfl rfl rfl ?_
  refine r_M_inN (by omega) (by omega) (by omega) (fun c15 => ?_) (fun c15 => ?_)
  · skip
    show WP _ _ _ _ 18 [.ref b, .int (nI k), .long 0] [.int (nI 1)] (mR b pre 0 tl un kn ap wb tx sq pa ke to wg we th pcs brs be po ro kf bg en)
    refine wq_if_ne rfl (fun _ => ?_) (fun c => absurd c (by decide))
    refine wq_aload_n rfl rfl ?_
    refine wq_virt (b := b) (a := []) (rest := []) rfl rfl rfl rfl rfl (mS_o hb) ?_
    refine r_R_all hb hSB hrn hV.2.1 hRR (fun _ th1 pcs1 brs1 be1 po1 ro1 kf1 bg1 en1 hB1 hSB1 => ?_) (fun z => absurd hV.2.2 z)
    obtain ⟨hn1, hq1⟩ := BL_BQ hV hB1
    have hbv1 := BL_BV hV hB1
    obtain ⟨ll1, ll2⟩ := BL_l hB1
    show WP _ _ _ _ 27 [.ref b, .int (nI k), .long 0] [.int (nI 1)] (mR b pre 0 tl un kn ap wb tx sq pa ke to wg we th1 pcs1 brs1 be1 po1 ro1 kf1 bg1 en1)
    refine wq_pop rfl rfl ?_
    refine wq_aload_n rfl rfl ?_
    refine wq_virt (b := b) (a := []) (rest := []) rfl rfl rfl rfl rfl (mS_o hb) ?_
    refine r_M_sets hb hn1 ?_
    show WP _ _ _ _ 32 [.ref b, .int (nI k), .long 0] [] (mR b pre 0 tl un kn ap brs1 tx sq pa ke to (cpA bg1 wg brs1) (cpA en1 we brs1) th1 pcs1 brs1 be1 po1 ro1 kf1 bg1 en1)
    refine wq_aload_n rfl rfl ?_
    refine wq_iload_n rfl rfl ?_
    refine wq_virt (b := b) (a := [.int (nI k)]) (rest := []) rfl rfl rfl rfl rfl (mS_o hb) ?_
    refine r_M_swaps hb (by omega) ?_
    show WP _ _ _ _ 37 [.ref b, .int (nI k), .long 0] [] (mR b pre 0 tl un kn ap brs1 tx (uN' (uN' sq k (sq (k + 1))) (k + 1) (sq k)) pa ke to (cpA bg1 wg brs1) (cpA en1 we brs1) th1 pcs1 brs1 be1 po1 ro1 kf1 bg1 en1)
    refine wq_aload_n rfl rfl ?_
    refine wq_virt (b := b) (a := []) (rest := []) rfl rfl rfl rfl rfl (mS_o hb) ?_
    refine r_R_all hb hSB1 hrn (sw_AV hV.2.1 (by omega)) (RR_sw hRR (by omega) (by omega)) (fun hok th2 pcs2 brs2 be2 po2 ro2 kf2 bg2 en2 hB2 hSB2 => ?_) (fun hno th2 pcs2 brs2 be2 po2 ro2 kf2 bg2 en2 hSB2 => ?_)
    · skip
      show WP _ _ _ _ 41 [.ref b, .int (nI k), .long 0] [.int (nI 1)] (mR b pre 0 tl un kn ap brs1 tx (uN' (uN' sq k (sq (k + 1))) (k + 1) (sq k)) pa ke to (cpA bg1 wg brs1) (cpA en1 we brs1) th2 pcs2 brs2 be2 po2 ro2 kf2 bg2 en2)
      refine wq_istore_n (lv' := [.ref b, .int (nI k), .int (nI 1)]) rfl rfl rfl ?_
      refine wq_aload_n rfl rfl ?_
      refine wq_iload_n rfl rfl ?_
      refine wq_virt (b := b) (a := [.int (nI k)]) (rest := []) rfl rfl rfl rfl rfl (mS_o hb) ?_
      refine r_M_swaps hb (by omega) ?_
      rw [sw_sw]
      show WP _ _ _ _ 47 [.ref b, .int (nI k), .int (nI 1)] [] (mR b pre 0 tl un kn ap brs1 tx sq pa ke to (cpA bg1 wg brs1) (cpA en1 we brs1) th2 pcs2 brs2 be2 po2 ro2 kf2 bg2 en2)
      refine wq_iload_n rfl rfl ?_
      refine wq_if_ne rfl (fun _ => ?_) (fun c => absurd c (by decide))
      have hV2 : RV (rn, swA ra k) := ⟨hrn, sw_AV hV.2.1 (by omega), hok⟩
      obtain ⟨hn2, hq2⟩ := BL_BQ hV2 hB2
      have hbv2 := BL_BV hV2 hB2
      refine wq_aload_n rfl rfl ?_
      refine wq_virt (b := b) (a := []) (rest := []) rfl rfl rfl rfl rfl (mS_o hb) ?_
      refine r_M_notes hb hu ?_
      show WP _ _ _ _ 58 [.ref b, .int (nI k), .int (nI 1)] [] (mR b pre 0 tl (unN un) kn ap brs1 tx sq (paN un pa sq) ke to (cpA bg1 wg brs1) (cpA en1 we brs1) th2 pcs2 brs2 be2 po2 ro2 kf2 bg2 en2)
      refine wq_aload_n rfl rfl ?_
      refine wq_iload_n rfl rfl ?_
      refine wq_virt (b := b) (a := [.int (nI k)]) (rest := []) rfl rfl rfl rfl rfl (mS_o hb) ?_
      refine r_M_swaps hb (by omega) ?_
      show WP _ _ _ _ 63 [.ref b, .int (nI k), .int (nI 1)] [] (mR b pre 0 tl (unN un) kn ap brs1 tx (uN' (uN' sq k (sq (k + 1))) (k + 1) (sq k)) (paN un pa sq) ke to (cpA bg1 wg brs1) (cpA en1 we brs1) th2 pcs2 brs2 be2 po2 ro2 kf2 bg2 en2)
      refine wq_aload_n rfl rfl ?_
      refine wq_virt (b := b) (a := []) (rest := []) rfl rfl rfl rfl rfl (mS_o hb) ?_
      refine r_M_others hb hn2 hn1 hbv2 (fun i hi => by rw [cpA_in hi, cpA_in hi]; exact hbv1 i hi) ?_
      show WP _ _ _ _ 67 [.ref b, .int (nI k), .int (nI 1)] [.int (nI (brs1 - pzz (cpA bg1 wg brs1) (cpA en1 we brs1) bg2 en2 brs1 brs2 (brs1 + brs2) 0 0))] (mR b pre 0 tl (unN un) kn ap brs1 tx (uN' (uN' sq k (sq (k + 1))) (k + 1) (sq k)) (paN un pa sq) ke to (cpA bg1 wg brs1) (cpA en1 we brs1) th2 pcs2 brs2 be2 po2 ro2 kf2 bg2 en2)
      refine wq_iret rfl trivial ?_
      have hob : okB (swA ra k) rn = true := (okB_iff rn).mpr hok
      rw [BL_wp (BL_cp hB1) hB2]
      exact fin_ (A' := sR (nT (tl, ta, (rn, ra), un, ua, kn, ka)) (rn, swA ra k)) hQ (by unfold f_exch; (try dsimp only); (repeat first | rw [if_pos (by omega)] | rw [if_neg (by omega)] | rw [if_pos hob] | rw [if_neg (by rw [hob]; decide)]); try rfl) ⟨_, _, _, _, _, _, _, _, _, _, _, _, _, _, _, _, _, _, _, rfl, (RI_row (RI_note hI0) hV2 (RR_sw hRR (by omega) (by omega))), hSB2⟩
    · skip
      show WP _ _ _ _ 41 [.ref b, .int (nI k), .long 0] [.int (nI 0)] (mR b pre 0 tl un kn ap brs1 tx (uN' (uN' sq k (sq (k + 1))) (k + 1) (sq k)) pa ke to (cpA bg1 wg brs1) (cpA en1 we brs1) th2 pcs2 brs2 be2 po2 ro2 kf2 bg2 en2)
      refine wq_istore_n (lv' := [.ref b, .int (nI k), .int (nI 0)]) rfl rfl rfl ?_
      refine wq_aload_n rfl rfl ?_
      refine wq_iload_n rfl rfl ?_
      refine wq_virt (b := b) (a := [.int (nI k)]) (rest := []) rfl rfl rfl rfl rfl (mS_o hb) ?_
      refine r_M_swaps hb (by omega) ?_
      rw [sw_sw]
      show WP _ _ _ _ 47 [.ref b, .int (nI k), .int (nI 0)] [] (mR b pre 0 tl un kn ap brs1 tx sq pa ke to (cpA bg1 wg brs1) (cpA en1 we brs1) th2 pcs2 brs2 be2 po2 ro2 kf2 bg2 en2)
      refine wq_iload_n rfl rfl ?_
      refine wq_if_ne rfl (fun c => absurd c (by decide)) (fun _ => ?_)
      refine wq_bipush (v := (-2)) rfl (by decide) ?_
      refine wq_iret rfl trivial ?_
      have hob : okB (swA ra k) rn = false := by cases z : okB (swA ra k) rn with | false => rfl | true => exact absurd ((okB_iff rn).mp z) hno
      exact fin_ (A' := (tl, ta, (rn, ra), un, ua, kn, ka)) hQ (by unfold f_exch; (try dsimp only); (repeat first | rw [if_pos (by omega)] | rw [if_neg (by omega)] | rw [if_pos hob] | rw [if_neg (by rw [hob]; decide)]); try rfl) ⟨_, _, _, _, _, _, _, _, _, _, _, _, _, _, _, _, _, _, _, rfl, hI0, hSB2⟩
  · skip
    show WP _ _ _ _ 18 [.ref b, .int (nI k), .long 0] [.int (nI 0)] (mR b pre 0 tl un kn ap wb tx sq pa ke to wg we th pcs brs be po ro kf bg en)
    refine wq_if_ne rfl (fun c => absurd c (by decide)) (fun _ => ?_)
    refine wq_iconst (v := (-1)) rfl (by decide) ?_
    refine wq_iret rfl trivial ?_
    exact fin_ (A' := (tl, ta, (rn, ra), un, ua, kn, ka)) hQ (by unfold f_exch; (try dsimp only); (repeat first | rw [if_pos (by omega)] | rw [if_neg (by omega)]); try rfl) ⟨_, _, _, _, _, _, _, _, _, _, _, _, _, _, _, _, _, _, _, rfl, hI0, hSB⟩
theorem R_exchange {d b : Nat} {pre : mH} {A : AS} {h : mH} {Q : Option Value → mH → Prop} (hb : pre.length = b) (hR : RIA b pre A h) {k : Nat} (hk0 : k < 2 ^ 31) (hQ : ∀ h', RIA b pre (f_exch A k).2 h' → Q (some (.int (f_exch A k).1)) h') : Rn mprog (d + 7) n_M_exchange [.ref b, .int (nI k)] h Q := by
  by_cases e : A.2.2.1.1 = 0
  · have q : f_exch A k = (-1, A) := by unfold f_exch; rw [if_pos (by omega)]
    rw [q] at hQ
    exact R_exchange0 hb hR e hQ
  · exact R_exch1 hb hR e hk0 hQ
theorem R_exchange_neg {d b : Nat} {pre : mH} {A : AS} {h : mH} {Q : Option Value → mH → Prop} (hb : pre.length = b) (hR : RIA b pre A h) {v1 : Int32} (hneg : v1 < 0) (hQ : ∀ h', RIA b pre A h' → Q (some (.int (-1))) h') : Rn mprog (d + 7) n_M_exchange [.ref b, .int v1] h Q := by
  by_cases e : A.2.2.1.1 = 0
  · exact R_exchange0 hb hR e hQ
  · revert e
    intro er
    obtain ⟨tl, ta, ⟨rn, ra⟩, un, ua, kn, ka⟩ := A
    obtain ⟨tn, ap, wb, tx, sq, pa, ke, to, wg, we, th, pcs, brs, be, po, ro, kf, bg, en, rfl, hI, hSB⟩ := hR
    have hI0 := hI
    obtain ⟨hl, htx, hV, hRR, hu, hU, hk, hK⟩ := hI
    dsimp only at hl htx hV hRR hu hU hk hK
    have hs0 : sq 0 = rn := hRR.1
    have hrn : rn ≤ 40 := hV.1
    dsimp only at er
    refine Rn.in rfl rfl rfl ?_
    show WP _ _ _ _ 0 [.ref b, .int v1, .long 0] [] (mR b pre tn tl un kn ap wb tx sq pa ke to wg we th pcs brs be po ro kf bg en)
    refine wq_aload_n rfl rfl ?_
    refine wq_iconst (v := nI 0) rfl (by decide) ?_
    refine wq_putfield (h' := mR b pre 0 tl un kn ap wb tx sq pa ke to wg we th pcs brs be po ro kf bg en) rfl (mS_o hb) rfl (mS_s0 hb) ?_
    refine wq_iload_n rfl rfl ?_
    refine wq_iconst (v := nI 1) rfl (by decide) ?_
    refine wq_aload_n rfl rfl ?_
    refine wq_getfield (v := .ref (b + 2)) rfl (mS_o hb) rfl ?_
    refine wq_iconst (v := nI 0) rfl (by decide) ?_
    refine wn_iaload (g := sq) rfl (mS_a3 hb) (by omega) (by decide) ?_
    refine wq_iconst (v := nI 1) rfl (by decide) ?_
    refine wn_isub rfl (by omega) ?_
    refine wq_stat (a := [.int v1, .int (nI 1), .int (nI ((sq 0) - 1))]) (rest := []) rfl rfl rfl rfl rfl ?_
    refine r_M_in (fun c15 => absurd c15 (fun z => nI_ngl hneg (by decide) z.1)) (fun c15 => ?_)
    show WP _ _ _ _ 18 [.ref b, .int v1, .long 0] [.int (nI 0)] (mR b pre 0 tl un kn ap wb tx sq pa ke to wg we th pcs brs be po ro kf bg en)
    refine wq_if_ne rfl (fun c => absurd c (by decide)) (fun _ => ?_)
    refine wq_iconst (v := (-1)) rfl (by decide) ?_
    refine wq_iret rfl trivial ?_
    exact hQ _ ⟨_, _, _, _, _, _, _, _, _, _, _, _, _, _, _, _, _, _, _, rfl, hI0, hSB⟩
theorem l_M_lasting {d b : Nat} {pre : mH} {tn : Nat} {lt : Nat} {un : Nat} {kp : Nat} {ap : Nat} {wb : Nat} {tx : Nat → Nat} {sq : Nat → Nat} {pa : Nat → Nat} {ke : Nat → Nat} {to : Nat → Nat} {wg : Nat → Nat} {we : Nat → Nat} {th : Nat} {pcs : Nat} {brs : Nat} {be : Nat → Nat} {po : Nat → Nat} {ro : Nat → Nat} {kf : Nat → Nat → Nat} {bg : Nat → Nat} {en : Nat → Nat} {Q : Option Value → mH → Prop} (hb : pre.length = b) {fi la : Nat} (hfi : fi < 2 ^ 31) (hla : la ≤ sq 0) (hs : sq 0 ≤ 40) (hn : brs ≤ 40) (hv : ∀ i, i < brs → BV (bg i, en i)) (K : ∀ (_u : Nat), WP (Rn mprog (d + 0)) k_M_lasting (some .int) Q 90 [.ref b, .int (nI fi), .int (nI la), .int (nI (cntA (fun j => Nat.ble (bg j) fi && Nat.ble la (laE (sq 0) (en j))) brs)), .int (nI brs)] [] (mR b pre tn lt un kp ap wb tx sq pa ke to wg we th pcs brs be po ro kf bg en)) : ∀ (m i : Nat) , i + m = brs → WP (Rn mprog (d + 0)) k_M_lasting (some .int) Q 45 [.ref b, .int (nI fi), .int (nI la), .int (nI (cntA (fun j => Nat.ble (bg j) fi && Nat.ble la (laE (sq 0) (en j))) i)), .int (nI i)] [] (mR b pre tn lt un kp ap wb tx sq pa ke to wg we th pcs brs be po ro kf bg en) := by
  intro m
  induction m with
  | zero =>
    intro i hi
    have e : i = brs := by omega
    subst e
    refine wq_iload rfl rfl ?_
    refine wq_aload_n rfl rfl ?_
    refine wq_getfield (v := .int (nI i)) rfl (mS_o hb) rfl ?_
    refine wn_ic_ge rfl (by omega) (by omega) (fun c51 => ?_) (fun c51 => absurd c51 (by omega))
    exact K 0 
  | succ m ih =>
    intro i hi
    obtain ⟨v1, v2, v3, v4⟩ := hv i (by omega)
    dsimp only at v1 v2 v3 v4
    refine wq_iload rfl rfl ?_
    refine wq_aload_n rfl rfl ?_
    refine wq_getfield (v := .int (nI brs)) rfl (mS_o hb) rfl ?_
    refine wn_ic_ge rfl (by omega) (by omega) (fun c51 => absurd c51 (by omega)) (fun c51 => ?_)
    refine wq_iload_n rfl rfl ?_
    refine wq_aload_n rfl rfl ?_
    refine wq_getfield (v := .ref (b + 9)) rfl (mS_o hb) rfl ?_
    refine wq_iload rfl rfl ?_
    refine wn_iaload (g := bg) rfl (mS_a14 hb) (by omega) (by decide) ?_
    refine wq_iload_n rfl rfl ?_
    refine wn_ic_gt rfl (by omega) (by omega) (fun c63 => ?_) (fun c63 => ?_)
    · skip
      refine wq_iconst (v := nI 0) rfl (by decide) ?_
      refine wn_iadd rfl ?_
      refine wq_istore_n (lv' := [.ref b, .int (nI fi), .int (nI la), .int (nI ((cntA (fun j => Nat.ble (bg j) fi && Nat.ble la (laE (sq 0) (en j))) i) + 0)), .int (nI i)]) rfl rfl rfl ?_
      refine wn_inc (lv' := [.ref b, .int (nI fi), .int (nI la), .int (nI ((cntA (fun j => Nat.ble (bg j) fi && Nat.ble la (laE (sq 0) (en j))) i) + 0)), .int (nI (i + 1))]) rfl rfl rfl ?_
      refine wq_goto rfl ?_
      have q := ih (i + 1) (by omega)
      unfold cntA at q
      rw [if_neg (fun z => by have z : (Nat.ble (bg i) fi && Nat.ble la (laE (sq 0) (en i))) = true := z; rw [Bool.and_eq_true, Nat.ble_eq, Nat.ble_eq] at z; unfold laE at z; split at z <;> omega)] at q
      exact q
    · skip
      refine wq_aload_n rfl rfl ?_
      refine wq_getfield (v := .ref (b + 10)) rfl (mS_o hb) rfl ?_
      refine wq_iload rfl rfl ?_
      refine wn_iaload (g := en) rfl (mS_a15 hb) (by omega) (by decide) ?_
      refine wq_iload_n rfl rfl ?_
      refine wn_ic_le rfl (by omega) (by omega) (fun c74 => ?_) (fun c74 => ?_)
      · skip
        refine wq_iconst (v := nI 0) rfl (by decide) ?_
        refine wn_iadd rfl ?_
        refine wq_istore_n (lv' := [.ref b, .int (nI fi), .int (nI la), .int (nI ((cntA (fun j => Nat.ble (bg j) fi && Nat.ble la (laE (sq 0) (en j))) i) + 0)), .int (nI i)]) rfl rfl rfl ?_
        refine wn_inc (lv' := [.ref b, .int (nI fi), .int (nI la), .int (nI ((cntA (fun j => Nat.ble (bg j) fi && Nat.ble la (laE (sq 0) (en j))) i) + 0)), .int (nI (i + 1))]) rfl rfl rfl ?_
        refine wq_goto rfl ?_
        have q := ih (i + 1) (by omega)
        unfold cntA at q
        rw [if_neg (fun z => by have z : (Nat.ble (bg i) fi && Nat.ble la (laE (sq 0) (en i))) = true := z; rw [Bool.and_eq_true, Nat.ble_eq, Nat.ble_eq] at z; unfold laE at z; split at z <;> omega)] at q
        exact q
      · skip
        refine wq_iconst (v := nI 1) rfl (by decide) ?_
        refine wq_goto rfl ?_
        refine wn_iadd rfl ?_
        refine wq_istore_n (lv' := [.ref b, .int (nI fi), .int (nI la), .int (nI ((cntA (fun j => Nat.ble (bg j) fi && Nat.ble la (laE (sq 0) (en j))) i) + 1)), .int (nI i)]) rfl rfl rfl ?_
        refine wn_inc (lv' := [.ref b, .int (nI fi), .int (nI la), .int (nI ((cntA (fun j => Nat.ble (bg j) fi && Nat.ble la (laE (sq 0) (en j))) i) + 1)), .int (nI (i + 1))]) rfl rfl rfl ?_
        refine wq_goto rfl ?_
        have q := ih (i + 1) (by omega)
        unfold cntA at q
        rw [if_pos (by show (Nat.ble (bg i) fi && Nat.ble la (laE (sq 0) (en i))) = true; rw [Bool.and_eq_true, Nat.ble_eq, Nat.ble_eq]; unfold laE; split <;> omega)] at q
        exact q
theorem R_lasting {d b : Nat} {pre : mH} {A : AS} {h : mH} {Q : Option Value → mH → Prop} (hb : pre.length = b) (hR : RIA b pre A h) {i : Nat} (hi0 : i < 2 ^ 31) {j : Nat} (hj0 : j < 2 ^ 31) (hQ : ∀ h', RIA b pre (f_last A i j).2 h' → Q (some (.int (f_last A i j).1)) h') : Rn mprog (d + 7) n_M_lasting [.ref b, .int (nI i), .int (nI j)] h Q := by
  obtain ⟨tl, ta, ⟨rn, ra⟩, un, ua, kn, ka⟩ := A
  obtain ⟨tn, ap, wb, tx, sq, pa, ke, to, wg, we, th, pcs, brs, be, po, ro, kf, bg, en, rfl, hI, hSB⟩ := hR
  have hI0 := hI
  obtain ⟨hl, htx, hV, hRR, hu, hU, hk, hK⟩ := hI
  dsimp only at hl htx hV hRR hu hU hk hK
  have hs0 : sq 0 = rn := hRR.1
  have hrn : rn ≤ 40 := hV.1
  refine Rn.in rfl rfl rfl ?_
  show WP _ _ _ _ 0 [.ref b, .int (nI i), .int (nI j), .long 0, .long 0] [] (mR b pre tn tl un kn ap wb tx sq pa ke to wg we th pcs brs be po ro kf bg en)
  refine wq_aload_n rfl rfl ?_
  refine wq_iconst (v := nI 0) rfl (by decide) ?_
  refine wq_putfield (h' := mR b pre 0 tl un kn ap wb tx sq pa ke to wg we th pcs brs be po ro kf bg en) rfl (mS_o hb) rfl (mS_s0 hb) ?_
  refine wq_iload_n rfl rfl ?_
  refine wq_iconst (v := nI 0) rfl (by decide) ?_
  refine wq_aload_n rfl rfl ?_
  refine wq_getfield (v := .ref (b + 2)) rfl (mS_o hb) rfl ?_
  refine wq_iconst (v := nI 0) rfl (by decide) ?_
  refine wn_iaload (g := sq) rfl (mS_a3 hb) (by omega) (by decide) ?_
  refine wq_stat (a := [.int (nI i), .int (nI 0), .int (nI (sq 0))]) (rest := []) rfl rfl rfl rfl rfl ?_
  refine r_M_inN (by omega) (by omega) (by omega) (fun c13 => ?_) (fun c13 => ?_)
  · skip
    show WP _ _ _ _ 16 [.ref b, .int (nI i), .int (nI j), .long 0, .long 0] [.int (nI 1)] (mR b pre 0 tl un kn ap wb tx sq pa ke to wg we th pcs brs be po ro kf bg en)
    refine wq_if_eq rfl (fun c => absurd c (by decide)) (fun _ => ?_)
    refine wq_iload_n rfl rfl ?_
    refine wq_iload_n rfl rfl ?_
    refine wq_aload_n rfl rfl ?_
    refine wq_getfield (v := .ref (b + 2)) rfl (mS_o hb) rfl ?_
    refine wq_iconst (v := nI 0) rfl (by decide) ?_
    refine wn_iaload (g := sq) rfl (mS_a3 hb) (by omega) (by decide) ?_
    refine wq_stat (a := [.int (nI j), .int (nI i), .int (nI (sq 0))]) (rest := []) rfl rfl rfl rfl rfl ?_
    refine r_M_inN (by omega) (by omega) (by omega) (fun c27 => ?_) (fun c27 => ?_)
    · skip
      show WP _ _ _ _ 30 [.ref b, .int (nI i), .int (nI j), .long 0, .long 0] [.int (nI 1)] (mR b pre 0 tl un kn ap wb tx sq pa ke to wg we th pcs brs be po ro kf bg en)
      refine wq_if_ne rfl (fun _ => ?_) (fun c => absurd c (by decide))
      refine wq_aload_n rfl rfl ?_
      refine wq_virt (b := b) (a := []) (rest := []) rfl rfl rfl rfl rfl (mS_o hb) ?_
      refine r_R_all hb hSB hrn hV.2.1 hRR (fun _ th1 pcs1 brs1 be1 po1 ro1 kf1 bg1 en1 hB1 hSB1 => ?_) (fun z => absurd hV.2.2 z)
      obtain ⟨hn1, hq1⟩ := BL_BQ hV hB1
      have hbv1 := BL_BV hV hB1
      obtain ⟨ll1, ll2⟩ := BL_l hB1
      show WP _ _ _ _ 39 [.ref b, .int (nI i), .int (nI j), .long 0, .long 0] [.int (nI 1)] (mR b pre 0 tl un kn ap wb tx sq pa ke to wg we th1 pcs1 brs1 be1 po1 ro1 kf1 bg1 en1)
      refine wq_pop rfl rfl ?_
      refine wq_iconst (v := nI 0) rfl (by decide) ?_
      refine wq_istore_n (lv' := [.ref b, .int (nI i), .int (nI j), .int (nI 0), .long 0]) rfl rfl rfl ?_
      refine wq_iconst (v := nI 0) rfl (by decide) ?_
      refine wq_istore (lv' := [.ref b, .int (nI i), .int (nI j), .int (nI 0), .int (nI 0)]) rfl rfl rfl ?_
      refine l_M_lasting hb (fi := i) (la := j) (by omega) (by omega) (by omega) hn1 hbv1 ?_ brs1 0 (by omega)
      intro _u
      show WP _ _ _ _ 90 [.ref b, .int (nI i), .int (nI j), .int (nI (cntA (fun jj => Nat.ble (bg1 jj) i && Nat.ble j (laE (sq 0) (en1 jj))) brs1)), .int (nI brs1)] [] (mR b pre 0 tl un kn ap wb tx sq pa ke to wg we th1 pcs1 brs1 be1 po1 ro1 kf1 bg1 en1)
      refine wq_iload_n rfl rfl ?_
      refine wq_iret rfl trivial ?_
      rw [hs0, BL_cn (fun f g => Nat.ble f i && Nat.ble j (laE rn g)) hB1]
      exact fin_ (A' := (tl, ta, (rn, ra), un, ua, kn, ka)) hQ (by unfold f_last; (try dsimp only); (repeat first | rw [if_pos (by omega)] | rw [if_neg (by omega)]); try rfl) ⟨_, _, _, _, _, _, _, _, _, _, _, _, _, _, _, _, _, _, _, rfl, hI0, hSB1⟩
    · skip
      show WP _ _ _ _ 30 [.ref b, .int (nI i), .int (nI j), .long 0, .long 0] [.int (nI 0)] (mR b pre 0 tl un kn ap wb tx sq pa ke to wg we th pcs brs be po ro kf bg en)
      refine wq_if_ne rfl (fun c => absurd c (by decide)) (fun _ => ?_)
      refine wq_iconst (v := (-1)) rfl (by decide) ?_
      refine wq_iret rfl trivial ?_
      exact fin_ (A' := (tl, ta, (rn, ra), un, ua, kn, ka)) hQ (by unfold f_last; (try dsimp only); (repeat first | rw [if_pos (by omega)] | rw [if_neg (by omega)]); try rfl) ⟨_, _, _, _, _, _, _, _, _, _, _, _, _, _, _, _, _, _, _, rfl, hI0, hSB⟩
  · skip
    show WP _ _ _ _ 16 [.ref b, .int (nI i), .int (nI j), .long 0, .long 0] [.int (nI 0)] (mR b pre 0 tl un kn ap wb tx sq pa ke to wg we th pcs brs be po ro kf bg en)
    refine wq_if_eq rfl (fun _ => ?_) (fun c => absurd c (by decide))
    refine wq_iconst (v := (-1)) rfl (by decide) ?_
    refine wq_iret rfl trivial ?_
    exact fin_ (A' := (tl, ta, (rn, ra), un, ua, kn, ka)) hQ (by unfold f_last; (try dsimp only); (repeat first | rw [if_pos (by omega)] | rw [if_neg (by omega)]); try rfl) ⟨_, _, _, _, _, _, _, _, _, _, _, _, _, _, _, _, _, _, _, rfl, hI0, hSB⟩
theorem R_lasting_neg {d b : Nat} {pre : mH} {A : AS} {h : mH} {Q : Option Value → mH → Prop} (hb : pre.length = b) (hR : RIA b pre A h) {v1 v2 : Int32} (hneg : v1 < 0 ∨ v2 < 0) (hQ : ∀ h', RIA b pre A h' → Q (some (.int (-1))) h') : Rn mprog (d + 7) n_M_lasting [.ref b, .int v1, .int v2] h Q := by
  obtain ⟨tl, ta, ⟨rn, ra⟩, un, ua, kn, ka⟩ := A
  obtain ⟨tn, ap, wb, tx, sq, pa, ke, to, wg, we, th, pcs, brs, be, po, ro, kf, bg, en, rfl, hI, hSB⟩ := hR
  have hI0 := hI
  obtain ⟨hl, htx, hV, hRR, hu, hU, hk, hK⟩ := hI
  dsimp only at hl htx hV hRR hu hU hk hK
  have hs0 : sq 0 = rn := hRR.1
  have hrn : rn ≤ 40 := hV.1
  refine Rn.in rfl rfl rfl ?_
  show WP _ _ _ _ 0 [.ref b, .int v1, .int v2, .long 0, .long 0] [] (mR b pre tn tl un kn ap wb tx sq pa ke to wg we th pcs brs be po ro kf bg en)
  refine wq_aload_n rfl rfl ?_
  refine wq_iconst (v := nI 0) rfl (by decide) ?_
  refine wq_putfield (h' := mR b pre 0 tl un kn ap wb tx sq pa ke to wg we th pcs brs be po ro kf bg en) rfl (mS_o hb) rfl (mS_s0 hb) ?_
  refine wq_iload_n rfl rfl ?_
  refine wq_iconst (v := nI 0) rfl (by decide) ?_
  refine wq_aload_n rfl rfl ?_
  refine wq_getfield (v := .ref (b + 2)) rfl (mS_o hb) rfl ?_
  refine wq_iconst (v := nI 0) rfl (by decide) ?_
  refine wn_iaload (g := sq) rfl (mS_a3 hb) (by omega) (by decide) ?_
  refine wq_stat (a := [.int v1, .int (nI 0), .int (nI (sq 0))]) (rest := []) rfl rfl rfl rfl rfl ?_
  refine r_M_in (fun c13 => ?_) (fun c13 => ?_)
  · skip
    show WP _ _ _ _ 16 [.ref b, .int v1, .int v2, .long 0, .long 0] [.int (nI 1)] (mR b pre 0 tl un kn ap wb tx sq pa ke to wg we th pcs brs be po ro kf bg en)
    refine wq_if_eq rfl (fun c => absurd c (by decide)) (fun _ => ?_)
    refine wq_iload_n rfl rfl ?_
    refine wq_iload_n rfl rfl ?_
    refine wq_aload_n rfl rfl ?_
    refine wq_getfield (v := .ref (b + 2)) rfl (mS_o hb) rfl ?_
    refine wq_iconst (v := nI 0) rfl (by decide) ?_
    refine wn_iaload (g := sq) rfl (mS_a3 hb) (by omega) (by decide) ?_
    refine wq_stat (a := [.int v2, .int v1, .int (nI (sq 0))]) (rest := []) rfl rfl rfl rfl rfl ?_
    refine r_M_in (fun c27 => absurd c27 (fun z => hneg.elim (fun q => nI_ngl (k := 0) q (by decide) c13.1) (fun q => nI_ngl (k := 0) q (by decide) (Int32.le_trans c13.1 z.1)))) (fun c27 => ?_)
    show WP _ _ _ _ 30 [.ref b, .int v1, .int v2, .long 0, .long 0] [.int (nI 0)] (mR b pre 0 tl un kn ap wb tx sq pa ke to wg we th pcs brs be po ro kf bg en)
    refine wq_if_ne rfl (fun c => absurd c (by decide)) (fun _ => ?_)
    refine wq_iconst (v := (-1)) rfl (by decide) ?_
    refine wq_iret rfl trivial ?_
    exact hQ _ ⟨_, _, _, _, _, _, _, _, _, _, _, _, _, _, _, _, _, _, _, rfl, hI0, hSB⟩
  · skip
    show WP _ _ _ _ 16 [.ref b, .int v1, .int v2, .long 0, .long 0] [.int (nI 0)] (mR b pre 0 tl un kn ap wb tx sq pa ke to wg we th pcs brs be po ro kf bg en)
    refine wq_if_eq rfl (fun _ => ?_) (fun c => absurd c (by decide))
    refine wq_iconst (v := (-1)) rfl (by decide) ?_
    refine wq_iret rfl trivial ?_
    exact hQ _ ⟨_, _, _, _, _, _, _, _, _, _, _, _, _, _, _, _, _, _, _, rfl, hI0, hSB⟩
theorem l_M_longer {d b : Nat} {pre : mH} {tn : Nat} {lt : Nat} {un : Nat} {kp : Nat} {ap : Nat} {wb : Nat} {tx : Nat → Nat} {sq : Nat → Nat} {pa : Nat → Nat} {ke : Nat → Nat} {to : Nat → Nat} {wg : Nat → Nat} {we : Nat → Nat} {th : Nat} {pcs : Nat} {brs : Nat} {be : Nat → Nat} {po : Nat → Nat} {ro : Nat → Nat} {kf : Nat → Nat → Nat} {bg : Nat → Nat} {en : Nat → Nat} {Q : Option Value → mH → Prop} (hb : pre.length = b) {mm : Nat} (hmm : mm < 2 ^ 31) (hs : sq 0 ≤ 40) (hn : brs ≤ 40) (hv : BQ (sq 0) bg en brs) (K : ∀ (_u : Nat), WP (Rn mprog (d + 1)) k_M_longer (some .int) Q 57 [.ref b, .int (nI mm), .int (nI (cntA (fun j => Nat.ble mm (lnN (sq 0) (bg j) (en j))) brs)), .int (nI brs)] [] (mR b pre tn lt un kp ap wb tx sq pa ke to wg we th pcs brs be po ro kf bg en)) : ∀ (m i : Nat) , i + m = brs → WP (Rn mprog (d + 1)) k_M_longer (some .int) Q 26 [.ref b, .int (nI mm), .int (nI (cntA (fun j => Nat.ble mm (lnN (sq 0) (bg j) (en j))) i)), .int (nI i)] [] (mR b pre tn lt un kp ap wb tx sq pa ke to wg we th pcs brs be po ro kf bg en) := by
  intro m
  induction m with
  | zero =>
    intro i hi
    have e : i = brs := by omega
    subst e
    refine wq_iload_n rfl rfl ?_
    refine wq_aload_n rfl rfl ?_
    refine wq_getfield (v := .int (nI i)) rfl (mS_o hb) rfl ?_
    refine wn_ic_ge rfl (by omega) (by omega) (fun c31 => ?_) (fun c31 => absurd c31 (by omega))
    exact K 0 
  | succ m ih =>
    intro i hi
    have q1 := lnN_le (x := bg i) (e := en i) hs (hv i (by omega)).1.2.2.2
    refine wq_iload_n rfl rfl ?_
    refine wq_aload_n rfl rfl ?_
    refine wq_getfield (v := .int (nI brs)) rfl (mS_o hb) rfl ?_
    refine wn_ic_ge rfl (by omega) (by omega) (fun c31 => absurd c31 (by omega)) (fun c31 => ?_)
    refine wq_iload_n rfl rfl ?_
    refine wq_aload_n rfl rfl ?_
    refine wq_iload_n rfl rfl ?_
    refine wq_virt (b := b) (a := [.int (nI i)]) (rest := [.int (nI (cntA (fun j => Nat.ble mm (lnN (sq 0) (bg j) (en j))) i))]) rfl rfl rfl rfl rfl (mS_o hb) ?_
    refine r_M_lengthOf hb hn hs hv (by omega) ?_
    show WP _ _ _ _ 40 [.ref b, .int (nI mm), .int (nI (cntA (fun j => Nat.ble mm (lnN (sq 0) (bg j) (en j))) i)), .int (nI i)] [.int (nI (lnN (sq 0) (bg i) (en i))), .int (nI (cntA (fun j => Nat.ble mm (lnN (sq 0) (bg j) (en j))) i))] (mR b pre tn lt un kp ap wb tx sq pa ke to wg we th pcs brs be po ro kf bg en)
    refine wq_iload_n rfl rfl ?_
    refine wn_ic_lt rfl (by omega) (by omega) (fun c41 => ?_) (fun c41 => ?_)
    · skip
      refine wq_iconst (v := nI 0) rfl (by decide) ?_
      refine wn_iadd rfl ?_
      refine wq_istore_n (lv' := [.ref b, .int (nI mm), .int (nI ((cntA (fun j => Nat.ble mm (lnN (sq 0) (bg j) (en j))) i) + 0)), .int (nI i)]) rfl rfl rfl ?_
      refine wn_inc (lv' := [.ref b, .int (nI mm), .int (nI ((cntA (fun j => Nat.ble mm (lnN (sq 0) (bg j) (en j))) i) + 0)), .int (nI (i + 1))]) rfl rfl rfl ?_
      refine wq_goto rfl ?_
      have q := ih (i + 1) (by omega)
      unfold cntA at q
      rw [if_neg (by show ¬ Nat.ble mm (lnN (sq 0) (bg i) (en i)) = true; rw [Nat.ble_eq]; omega)] at q
      exact q
    · skip
      refine wq_iconst (v := nI 1) rfl (by decide) ?_
      refine wq_goto rfl ?_
      refine wn_iadd rfl ?_
      refine wq_istore_n (lv' := [.ref b, .int (nI mm), .int (nI ((cntA (fun j => Nat.ble mm (lnN (sq 0) (bg j) (en j))) i) + 1)), .int (nI i)]) rfl rfl rfl ?_
      refine wn_inc (lv' := [.ref b, .int (nI mm), .int (nI ((cntA (fun j => Nat.ble mm (lnN (sq 0) (bg j) (en j))) i) + 1)), .int (nI (i + 1))]) rfl rfl rfl ?_
      refine wq_goto rfl ?_
      have q := ih (i + 1) (by omega)
      unfold cntA at q
      rw [if_pos (by show Nat.ble mm (lnN (sq 0) (bg i) (en i)) = true; rw [Nat.ble_eq]; omega)] at q
      exact q
theorem R_longer {d b : Nat} {pre : mH} {A : AS} {h : mH} {Q : Option Value → mH → Prop} (hb : pre.length = b) (hR : RIA b pre A h) {m : Nat} (hm0 : m < 2 ^ 31) (hQ : ∀ h', RIA b pre (f_long A m).2 h' → Q (some (.int (f_long A m).1)) h') : Rn mprog (d + 7) n_M_longer [.ref b, .int (nI m)] h Q := by
  obtain ⟨tl, ta, ⟨rn, ra⟩, un, ua, kn, ka⟩ := A
  obtain ⟨tn, ap, wb, tx, sq, pa, ke, to, wg, we, th, pcs, brs, be, po, ro, kf, bg, en, rfl, hI, hSB⟩ := hR
  have hI0 := hI
  obtain ⟨hl, htx, hV, hRR, hu, hU, hk, hK⟩ := hI
  dsimp only at hl htx hV hRR hu hU hk hK
  have hs0 : sq 0 = rn := hRR.1
  have hrn : rn ≤ 40 := hV.1
  refine Rn.in rfl rfl rfl ?_
  show WP _ _ _ _ 0 [.ref b, .int (nI m), .long 0, .long 0] [] (mR b pre tn tl un kn ap wb tx sq pa ke to wg we th pcs brs be po ro kf bg en)
  refine wq_aload_n rfl rfl ?_
  refine wq_iconst (v := nI 0) rfl (by decide) ?_
  refine wq_putfield (h' := mR b pre 0 tl un kn ap wb tx sq pa ke to wg we th pcs brs be po ro kf bg en) rfl (mS_o hb) rfl (mS_s0 hb) ?_
  refine wq_iload_n rfl rfl ?_
  refine wq_iconst (v := nI 1) rfl (by decide) ?_
  refine wq_bipush (v := nI 41) rfl (by decide) ?_
  refine wq_stat (a := [.int (nI m), .int (nI 1), .int (nI 41)]) (rest := []) rfl rfl rfl rfl rfl ?_
  refine r_M_inN (by omega) (by omega) (by omega) (fun c9 => ?_) (fun c9 => ?_)
  · skip
    show WP _ _ _ _ 12 [.ref b, .int (nI m), .long 0, .long 0] [.int (nI 1)] (mR b pre 0 tl un kn ap wb tx sq pa ke to wg we th pcs brs be po ro kf bg en)
    refine wq_if_ne rfl (fun _ => ?_) (fun c => absurd c (by decide))
    refine wq_aload_n rfl rfl ?_
    refine wq_virt (b := b) (a := []) (rest := []) rfl rfl rfl rfl rfl (mS_o hb) ?_
    refine r_R_all hb hSB hrn hV.2.1 hRR (fun _ th1 pcs1 brs1 be1 po1 ro1 kf1 bg1 en1 hB1 hSB1 => ?_) (fun z => absurd hV.2.2 z)
    obtain ⟨hn1, hq1⟩ := BL_BQ hV hB1
    have hbv1 := BL_BV hV hB1
    obtain ⟨ll1, ll2⟩ := BL_l hB1
    show WP _ _ _ _ 21 [.ref b, .int (nI m), .long 0, .long 0] [.int (nI 1)] (mR b pre 0 tl un kn ap wb tx sq pa ke to wg we th1 pcs1 brs1 be1 po1 ro1 kf1 bg1 en1)
    refine wq_pop rfl rfl ?_
    refine wq_iconst (v := nI 0) rfl (by decide) ?_
    refine wq_istore_n (lv' := [.ref b, .int (nI m), .int (nI 0), .long 0]) rfl rfl rfl ?_
    refine wq_iconst (v := nI 0) rfl (by decide) ?_
    refine wq_istore_n (lv' := [.ref b, .int (nI m), .int (nI 0), .int (nI 0)]) rfl rfl rfl ?_
    refine l_M_longer hb (mm := m) (by omega) (by omega) hn1 (by rw [hs0]; exact hq1) ?_ brs1 0 (by omega)
    intro _u
    show WP _ _ _ _ 57 [.ref b, .int (nI m), .int (nI (cntA (fun jj => Nat.ble m (lnN (sq 0) (bg1 jj) (en1 jj))) brs1)), .int (nI brs1)] [] (mR b pre 0 tl un kn ap wb tx sq pa ke to wg we th1 pcs1 brs1 be1 po1 ro1 kf1 bg1 en1)
    refine wq_iload_n rfl rfl ?_
    refine wq_iret rfl trivial ?_
    rw [hs0, BL_cn (fun f g => Nat.ble m (lnN rn f g)) hB1]
    exact fin_ (A' := (tl, ta, (rn, ra), un, ua, kn, ka)) hQ (by unfold f_long; (try dsimp only); (repeat first | rw [if_pos (by omega)] | rw [if_neg (by omega)]); try rfl) ⟨_, _, _, _, _, _, _, _, _, _, _, _, _, _, _, _, _, _, _, rfl, hI0, hSB1⟩
  · skip
    show WP _ _ _ _ 12 [.ref b, .int (nI m), .long 0, .long 0] [.int (nI 0)] (mR b pre 0 tl un kn ap wb tx sq pa ke to wg we th pcs brs be po ro kf bg en)
    refine wq_if_ne rfl (fun c => absurd c (by decide)) (fun _ => ?_)
    refine wq_iconst (v := (-1)) rfl (by decide) ?_
    refine wq_iret rfl trivial ?_
    exact fin_ (A' := (tl, ta, (rn, ra), un, ua, kn, ka)) hQ (by unfold f_long; (try dsimp only); (repeat first | rw [if_pos (by omega)] | rw [if_neg (by omega)]); try rfl) ⟨_, _, _, _, _, _, _, _, _, _, _, _, _, _, _, _, _, _, _, rfl, hI0, hSB⟩
theorem R_longer_neg {d b : Nat} {pre : mH} {A : AS} {h : mH} {Q : Option Value → mH → Prop} (hb : pre.length = b) (hR : RIA b pre A h) {v1 : Int32} (hneg : v1 < 0) (hQ : ∀ h', RIA b pre A h' → Q (some (.int (-1))) h') : Rn mprog (d + 7) n_M_longer [.ref b, .int v1] h Q := by
  obtain ⟨tl, ta, ⟨rn, ra⟩, un, ua, kn, ka⟩ := A
  obtain ⟨tn, ap, wb, tx, sq, pa, ke, to, wg, we, th, pcs, brs, be, po, ro, kf, bg, en, rfl, hI, hSB⟩ := hR
  have hI0 := hI
  obtain ⟨hl, htx, hV, hRR, hu, hU, hk, hK⟩ := hI
  dsimp only at hl htx hV hRR hu hU hk hK
  have hs0 : sq 0 = rn := hRR.1
  have hrn : rn ≤ 40 := hV.1
  refine Rn.in rfl rfl rfl ?_
  show WP _ _ _ _ 0 [.ref b, .int v1, .long 0, .long 0] [] (mR b pre tn tl un kn ap wb tx sq pa ke to wg we th pcs brs be po ro kf bg en)
  refine wq_aload_n rfl rfl ?_
  refine wq_iconst (v := nI 0) rfl (by decide) ?_
  refine wq_putfield (h' := mR b pre 0 tl un kn ap wb tx sq pa ke to wg we th pcs brs be po ro kf bg en) rfl (mS_o hb) rfl (mS_s0 hb) ?_
  refine wq_iload_n rfl rfl ?_
  refine wq_iconst (v := nI 1) rfl (by decide) ?_
  refine wq_bipush (v := nI 41) rfl (by decide) ?_
  refine wq_stat (a := [.int v1, .int (nI 1), .int (nI 41)]) (rest := []) rfl rfl rfl rfl rfl ?_
  refine r_M_in (fun c9 => absurd c9 (fun z => (fun q => nI_ngl q (by decide) z.1) hneg)) (fun c9 => ?_)
  show WP _ _ _ _ 12 [.ref b, .int v1, .long 0, .long 0] [.int (nI 0)] (mR b pre 0 tl un kn ap wb tx sq pa ke to wg we th pcs brs be po ro kf bg en)
  refine wq_if_ne rfl (fun c => absurd c (by decide)) (fun _ => ?_)
  refine wq_iconst (v := (-1)) rfl (by decide) ?_
  refine wq_iret rfl trivial ?_
  exact hQ _ ⟨_, _, _, _, _, _, _, _, _, _, _, _, _, _, _, _, _, _, _, rfl, hI0, hSB⟩
theorem spL_s (ra : Nat → Nat) (m i k : Nat) : spL ra (m + 1) i k = if k < ilN (ra i >>> 8) then nI (leN (ra i >>> 8) (ra i >>> 4 &&& 15) (ra i &&& 15) k) else spL ra m (i + 1) (k - ilN (ra i >>> 8)) := rfl
theorem l_M_spelt {d b k0 : Nat} {pre : mH} {tn : Nat} {lt : Nat} {un : Nat} {kp : Nat} {ap : Nat} {wb : Nat} {tx : Nat → Nat} {sq : Nat → Nat} {pa : Nat → Nat} {ke : Nat → Nat} {to : Nat → Nat} {wg : Nat → Nat} {we : Nat → Nat} {th : Nat} {pcs : Nat} {brs : Nat} {be : Nat → Nat} {po : Nat → Nat} {ro : Nat → Nat} {kf : Nat → Nat → Nat} {bg : Nat → Nat} {en : Nat → Nat} {Q : Option Value → mH → Prop} (hb : pre.length = b) {rn : Nat} {ra : Nat → Nat} (hV : RV (rn, ra)) (hRR : RR sq (rn, ra)) {v1 : Value} (hQ : ∀ x, x = spL ra rn 0 k0 → Q (some (.int x)) (mR b pre tn lt un kp ap wb tx sq pa ke to wg we th pcs brs be po ro kf bg en)) : ∀ (m i k : Nat) (v4 : Value), i + m = rn → k < 2 ^ 31 → spL ra m i k = spL ra rn 0 k0 → WP (Rn mprog (d + 2)) k_M_spelt (some .int) Q 15 [.ref b, v1, .int (nI k), .int (nI (i + 1)), v4] [] (mR b pre tn lt un kp ap wb tx sq pa ke to wg we th pcs brs be po ro kf bg en) := by
  have hs0 : sq 0 = rn := hRR.1
  have hrn : rn ≤ 40 := hV.1
  intro m
  induction m with
  | zero =>
    intro i k v4 hi hk he
    refine wq_iload_n rfl rfl ?_
    refine wq_aload_n rfl rfl ?_
    refine wq_getfield (v := .ref (b + 2)) rfl (mS_o hb) rfl ?_
    refine wq_iconst (v := nI 0) rfl (by decide) ?_
    refine wn_iaload (g := sq) rfl (mS_a3 hb) (by omega) (by decide) ?_
    refine wn_ic_gt rfl (by omega) (by omega) (fun c22 => ?_) (fun c22 => absurd c22 (by omega))
    refine wq_bipush (v := (-4)) rfl (by decide) ?_
    refine wq_iret rfl trivial ?_
    exact hQ _ he
  | succ m ih =>
    intro i k v4 hi hk he
    have ek : sq (i + 1) = cdA (ra i) := hRR.2 i (by show i < rn; omega)
    obtain ⟨q1, q2, q3, q4, q5⟩ := cdA_f (hV.2.1 i (by show i < rn; omega))
    rw [← ek] at q1 q2 q3 q4 q5
    rw [spL_s] at he
    have hil : ilN (ra i >>> 8) = if sq (i + 1) / 100 < 2 then 3 else 4 := by unfold ilN; rw [q2]
    refine wq_iload_n rfl rfl ?_
    refine wq_aload_n rfl rfl ?_
    refine wq_getfield (v := .ref (b + 2)) rfl (mS_o hb) rfl ?_
    refine wq_iconst (v := nI 0) rfl (by decide) ?_
    refine wn_iaload (g := sq) rfl (mS_a3 hb) (by omega) (by decide) ?_
    refine wn_ic_gt rfl (by omega) (by omega) (fun c22 => absurd c22 (by omega)) (fun c22 => ?_)
    refine wq_aload_n rfl rfl ?_
    refine wq_getfield (v := .ref (b + 2)) rfl (mS_o hb) rfl ?_
    refine wq_iload_n rfl rfl ?_
    refine wn_iaload (g := sq) rfl (mS_a3 hb) (by omega) (by decide) ?_
    refine wq_stat (a := [.int (nI (sq (i + 1)))]) (rest := []) rfl rfl rfl rfl rfl ?_
    refine r_M_kindOf (by omega) ?_
    show WP _ _ _ _ 34 [.ref b, v1, .int (nI k), .int (nI (i + 1)), v4] [.int (nI ((sq (i + 1)) / 100))] (mR b pre tn lt un kp ap wb tx sq pa ke to wg we th pcs brs be po ro kf bg en)
    refine wq_iconst (v := nI 2) rfl (by decide) ?_
    refine wn_ic_ge rfl (by omega) (by omega) (fun c35 => ?_) (fun c35 => ?_)
    · skip
      refine wq_iconst (v := nI 4) rfl (by decide) ?_
      refine wq_istore (lv' := [.ref b, v1, .int (nI k), .int (nI (i + 1)), .int (nI 4)]) rfl rfl rfl ?_
      refine wq_iload_n rfl rfl ?_
      refine wq_iload rfl rfl ?_
      refine wn_ic_ge rfl (by omega) (by omega) (fun c48 => ?_) (fun c48 => ?_)
      · skip
        refine wq_iload_n rfl rfl ?_
        refine wq_iload rfl rfl ?_
        refine wn_isub rfl (by omega) ?_
        refine wq_istore_n (lv' := [.ref b, v1, .int (nI (k - 4)), .int (nI (i + 1)), .int (nI 4)]) rfl rfl rfl ?_
        refine wn_inc (lv' := [.ref b, v1, .int (nI (k - 4)), .int (nI (i + 1 + 1)), .int (nI 4)]) rfl rfl rfl ?_
        refine wq_goto rfl ?_
        have h3 : sq (i + 1) / 100 ≥ 2 := by omega
        rw [if_neg (by omega)] at hil
        rw [hil, if_neg (by omega)] at he
        exact ih (i + 1) _ _ (by omega) (by omega) he
      · skip
        refine wq_aload_n rfl rfl ?_
        refine wq_aload_n rfl rfl ?_
        refine wq_getfield (v := .ref (b + 2)) rfl (mS_o hb) rfl ?_
        refine wq_iload_n rfl rfl ?_
        refine wn_iaload (g := sq) rfl (mS_a3 hb) (by omega) (by decide) ?_
        refine wq_iload_n rfl rfl ?_
        refine wq_virt (b := b) (a := [.int (nI (sq (i + 1))), .int (nI k)]) (rest := []) rfl rfl rfl rfl rfl (mS_o hb) ?_
        refine r_M_letterOf hb (by omega) (by omega) ?_
        show WP _ _ _ _ 62 [.ref b, v1, .int (nI k), .int (nI (i + 1)), .int (nI 4)] [.int (nI (leN (sq (i + 1) / 100) (sq (i + 1) / 10 % 10) (sq (i + 1) % 10) k))] (mR b pre tn lt un kp ap wb tx sq pa ke to wg we th pcs brs be po ro kf bg en)
        refine wq_iret rfl trivial ?_
        have h3 : sq (i + 1) / 100 ≥ 2 := by omega
        rw [if_neg (by omega)] at hil
        rw [hil, if_pos (by omega), q2, q3] at he
        refine hQ _ (Eq.trans ?_ he)
        rw [q4 (by omega)]
    · skip
      refine wq_iconst (v := nI 3) rfl (by decide) ?_
      refine wq_goto rfl ?_
      refine wq_istore (lv' := [.ref b, v1, .int (nI k), .int (nI (i + 1)), .int (nI 3)]) rfl rfl rfl ?_
      refine wq_iload_n rfl rfl ?_
      refine wq_iload rfl rfl ?_
      refine wn_ic_ge rfl (by omega) (by omega) (fun c48 => ?_) (fun c48 => ?_)
      · skip
        refine wq_iload_n rfl rfl ?_
        refine wq_iload rfl rfl ?_
        refine wn_isub rfl (by omega) ?_
        refine wq_istore_n (lv' := [.ref b, v1, .int (nI (k - 3)), .int (nI (i + 1)), .int (nI 3)]) rfl rfl rfl ?_
        refine wn_inc (lv' := [.ref b, v1, .int (nI (k - 3)), .int (nI (i + 1 + 1)), .int (nI 3)]) rfl rfl rfl ?_
        refine wq_goto rfl ?_
        have h3 : sq (i + 1) / 100 < 2 := by omega
        rw [if_pos h3] at hil
        rw [hil, if_neg (by omega)] at he
        exact ih (i + 1) _ _ (by omega) (by omega) he
      · skip
        refine wq_aload_n rfl rfl ?_
        refine wq_aload_n rfl rfl ?_
        refine wq_getfield (v := .ref (b + 2)) rfl (mS_o hb) rfl ?_
        refine wq_iload_n rfl rfl ?_
        refine wn_iaload (g := sq) rfl (mS_a3 hb) (by omega) (by decide) ?_
        refine wq_iload_n rfl rfl ?_
        refine wq_virt (b := b) (a := [.int (nI (sq (i + 1))), .int (nI k)]) (rest := []) rfl rfl rfl rfl rfl (mS_o hb) ?_
        refine r_M_letterOf hb (by omega) (by omega) ?_
        show WP _ _ _ _ 62 [.ref b, v1, .int (nI k), .int (nI (i + 1)), .int (nI 3)] [.int (nI (leN (sq (i + 1) / 100) (sq (i + 1) / 10 % 10) (sq (i + 1) % 10) k))] (mR b pre tn lt un kp ap wb tx sq pa ke to wg we th pcs brs be po ro kf bg en)
        refine wq_iret rfl trivial ?_
        have h3 : sq (i + 1) / 100 < 2 := by omega
        rw [if_pos h3] at hil
        rw [hil, if_pos (by omega), q2, q3] at he
        refine hQ _ (Eq.trans ?_ he)
        unfold leN
        rw [if_neg (fun z => by omega : ¬ (k = 2 ∧ 1 < sq (i + 1) / 100)), if_neg (fun z => by omega : ¬ (k = 2 ∧ 1 < sq (i + 1) / 100))]
theorem R_spelt {d b : Nat} {pre : mH} {A : AS} {h : mH} {Q : Option Value → mH → Prop} (hb : pre.length = b) (hR : RIA b pre A h) {k : Nat} (hk0 : k < 2 ^ 31) (hQ : ∀ h', RIA b pre (f_spelt A k).2 h' → Q (some (.int (f_spelt A k).1)) h') : Rn mprog (d + 7) n_M_spelt [.ref b, .int (nI k)] h Q := by
  obtain ⟨tl, ta, ⟨rn, ra⟩, un, ua, kn, ka⟩ := A
  obtain ⟨tn, ap, wb, tx, sq, pa, ke, to, wg, we, th, pcs, brs, be, po, ro, kf, bg, en, rfl, hI, hSB⟩ := hR
  have hI0 := hI
  obtain ⟨hl, htx, hV, hRR, hu, hU, hk, hK⟩ := hI
  dsimp only at hl htx hV hRR hu hU hk hK
  have hs0 : sq 0 = rn := hRR.1
  have hrn : rn ≤ 40 := hV.1
  refine Rn.in rfl rfl rfl ?_
  show WP _ _ _ _ 0 [.ref b, .int (nI k), .long 0, .long 0, .long 0] [] (mR b pre tn tl un kn ap wb tx sq pa ke to wg we th pcs brs be po ro kf bg en)
  refine wq_aload_n rfl rfl ?_
  refine wq_iconst (v := nI 0) rfl (by decide) ?_
  refine wq_putfield (h' := mR b pre 0 tl un kn ap wb tx sq pa ke to wg we th pcs brs be po ro kf bg en) rfl (mS_o hb) rfl (mS_s0 hb) ?_
  refine wq_iload_n rfl rfl ?_
  refine wn_if_ge rfl (by omega) ?_
  refine wq_iload_n rfl rfl ?_
  refine wq_istore_n (lv' := [.ref b, .int (nI k), .int (nI k), .long 0, .long 0]) rfl rfl rfl ?_
  refine wq_iconst (v := nI 1) rfl (by decide) ?_
  refine wq_istore_n (lv' := [.ref b, .int (nI k), .int (nI k), .int (nI 1), .long 0]) rfl rfl rfl ?_
  refine l_M_spelt (k0 := k) hb hV hRR (fun x hx => ?_) rn 0 k _ (by omega) (by omega) rfl
  rw [hx]
  exact fin_ (A' := (tl, ta, (rn, ra), un, ua, kn, ka)) hQ (by unfold f_spelt; (try dsimp only); (repeat first | rw [if_pos (by omega)] | rw [if_neg (by omega)]); try rfl) ⟨_, _, _, _, _, _, _, _, _, _, _, _, _, _, _, _, _, _, _, rfl, hI0, hSB⟩
theorem R_spelt_neg {d b : Nat} {pre : mH} {A : AS} {h : mH} {Q : Option Value → mH → Prop} (hb : pre.length = b) (hR : RIA b pre A h) {v1 : Int32} (hneg : v1 < 0) (hQ : ∀ h', RIA b pre A h' → Q (some (.int (-1))) h') : Rn mprog (d + 7) n_M_spelt [.ref b, .int v1] h Q := by
  obtain ⟨tl, ta, ⟨rn, ra⟩, un, ua, kn, ka⟩ := A
  obtain ⟨tn, ap, wb, tx, sq, pa, ke, to, wg, we, th, pcs, brs, be, po, ro, kf, bg, en, rfl, hI, hSB⟩ := hR
  have hI0 := hI
  obtain ⟨hl, htx, hV, hRR, hu, hU, hk, hK⟩ := hI
  dsimp only at hl htx hV hRR hu hU hk hK
  have hs0 : sq 0 = rn := hRR.1
  have hrn : rn ≤ 40 := hV.1
  refine Rn.in rfl rfl rfl ?_
  show WP _ _ _ _ 0 [.ref b, .int v1, .long 0, .long 0, .long 0] [] (mR b pre tn tl un kn ap wb tx sq pa ke to wg we th pcs brs be po ro kf bg en)
  refine wq_aload_n rfl rfl ?_
  refine wq_iconst (v := nI 0) rfl (by decide) ?_
  refine wq_putfield (h' := mR b pre 0 tl un kn ap wb tx sq pa ke to wg we th pcs brs be po ro kf bg en) rfl (mS_o hb) rfl (mS_s0 hb) ?_
  refine wq_iload_n rfl rfl ?_
  refine wq_if_ge rfl (fun c6 => absurd c6 (fun z => nI_ngl (k := 0) hneg (by decide) z)) (fun c6 => ?_)
  refine wq_iconst (v := (-1)) rfl (by decide) ?_
  refine wq_iret rfl trivial ?_
  exact hQ _ ⟨_, _, _, _, _, _, _, _, _, _, _, _, _, _, _, _, _, _, _, rfl, hI0, hSB⟩
