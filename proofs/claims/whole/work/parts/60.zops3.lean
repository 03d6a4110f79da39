/-! the class: spelt, steadiest, backwards, clear -/
theorem spL_congr {ra rb : Nat → Nat} : ∀ m i k, (∀ j, j < i + m → ra j = rb j) → spL ra m i k = spL rb m i k
  | 0, _, _, _ => rfl
  | m + 1, i, k, h => by
    rw [spL_s, spL_s, h i (by omega), spL_congr m (i + 1) _ (fun j hj => h j (by omega))]
theorem l_Z_spelt {d : Nat} {tl : Nat} {ta : Nat → Nat} {rn : Nat} {ra : Nat → Nat} {qn : Nat} {qa : Nat → Nat} {un : Nat} {σ : Nat → Nat} {us : Nat → Rw} {kn : Nat} {ρ : Nat → Nat} {ks : Nat → Rw} {pts : Nat} {edg : Nat} {nr : Nat → Nat} {rt : Nat → Nat} {sc : Nat → Nat → Nat} {wf : Nat → Nat} {ws : Nat → Nat} {bsz : Nat} {bop : Nat} {bbg : Nat → Nat} {ben : Nat → Nat} {ptx : Nat} {edx : Nat} {nrx : Nat → Nat} {rtx : Nat → Nat} {scx : Nat → Nat → Nat} {wfx : Nat → Nat} {wsx : Nat → Nat} {bsx : Nat} {box : Nat} {bbx : Nat → Nat} {bex : Nat → Nat} {suf : mH} {Q : Option Value → mH → Prop} {k : Nat} (hk : k < 2 ^ 31) (hV : RV (rn, ra)) (hQ : ∀ x, x = spL ra rn 0 k → Q (some (.int x)) (zW tl ta rn ra qn qa un σ us kn ρ ks pts edg nr rt sc wf ws bsz bop bbg ben ptx edx nrx rtx scx wfx wsx bsx box bbx bex suf)) : ∀ (m i pl : Nat) (v4 v5 : Value), i + m = rn → pl ≤ 4 * i → pl ≤ k → spL ra m i (k - pl) = spL ra rn 0 k → WP (Rn mprog (d + 8)) k_Z_spelt (some .int) Q 10 [.ref 0, .int (nI k), .int (nI pl), .int (nI (i + 1)), v4, v5] [] (zW tl ta rn ra qn qa un σ us kn ρ ks pts edg nr rt sc wf ws bsz bop bbg ben ptx edx nrx rtx scx wfx wsx bsx box bbx bex suf) := by
  have hrn : rn ≤ 40 := hV.1
  intro m
  induction m with
  | zero =>
    intro i pl v4 v5 hi hp hpk he
    refine wq_iload_n rfl rfl ?_
    refine wq_aload_n rfl rfl ?_
    refine wq_getfield (v := .ref 3) rfl zo_0 rfl ?_
    refine wq_virt (b := 3) (a := []) (rest := [.int (nI (i + 1))]) rfl rfl rfl rfl rfl zo_3 ?_
    refine r_Row_size (ra := fun _ => 0) zo_3 ?_
    show WP _ _ _ _ 18 [.ref 0, .int (nI k), .int (nI pl), .int (nI (i + 1)), v4, v5] [.int (nI rn), .int (nI (i + 1))] (zW tl ta rn ra qn qa un σ us kn ρ ks pts edg nr rt sc wf ws bsz bop bbg ben ptx edx nrx rtx scx wfx wsx bsx box bbx bex suf)
    refine wn_ic_gt rfl (by omega) (by omega) (fun c18 => ?_) (fun c18 => absurd c18 (by omega))
    refine wq_bipush (v := (-4)) rfl (by decide) ?_
    refine wq_iret rfl trivial ?_
    exact hQ _ he
  | succ m ih =>
    intro i pl v4 v5 hi hp hpk he
    have hav : AV (ra i) := hV.2.1 i (by show i < rn; omega)
    have ha1 := hav.1
    have hil : ilN (ra i >>> 8) ≤ 4 := by unfold ilN; split <;> omega
    rw [spL_s] at he
    refine wq_iload_n rfl rfl ?_
    refine wq_aload_n rfl rfl ?_
    refine wq_getfield (v := .ref 3) rfl zo_0 rfl ?_
    refine wq_virt (b := 3) (a := []) (rest := [.int (nI (i + 1))]) rfl rfl rfl rfl rfl zo_3 ?_
    refine r_Row_size (ra := fun _ => 0) zo_3 ?_
    show WP _ _ _ _ 18 [.ref 0, .int (nI k), .int (nI pl), .int (nI (i + 1)), v4, v5] [.int (nI rn), .int (nI (i + 1))] (zW tl ta rn ra qn qa un σ us kn ρ ks pts edg nr rt sc wf ws bsz bop bbg ben ptx edx nrx rtx scx wfx wsx bsx box bbx bex suf)
    refine wn_ic_gt rfl (by omega) (by omega) (fun c18 => absurd c18 (by omega)) (fun c18 => ?_)
    refine wq_aload_n rfl rfl ?_
    refine wq_getfield (v := .ref 3) rfl zo_0 rfl ?_
    refine wq_iload_n rfl rfl ?_
    refine wq_virt (b := 3) (a := [.int (nI (i + 1))]) (rest := []) rfl rfl rfl rfl rfl zo_3 ?_
    refine r_Row_actAt zo_3 zo_4b (by omega) (by omega) (by omega) ?_
    rw [Nat.add_sub_cancel]
    show WP _ _ _ _ 29 [.ref 0, .int (nI k), .int (nI pl), .int (nI (i + 1)), v4, v5] [.int (nI (ra i))] (zW tl ta rn ra qn qa un σ us kn ρ ks pts edg nr rt sc wf ws bsz bop bbg ben ptx edx nrx rtx scx wfx wsx bsx box bbx bex suf)
    refine wq_istore (lv' := [.ref 0, .int (nI k), .int (nI pl), .int (nI (i + 1)), .int (nI (ra i)), v5]) rfl rfl rfl ?_
    refine wq_iload rfl rfl ?_
    refine wq_stat (a := [.int (nI (ra i))]) (rest := []) rfl rfl rfl rfl rfl ?_
    refine r_Z_kindOf (by omega) ?_
    show WP _ _ _ _ 36 [.ref 0, .int (nI k), .int (nI pl), .int (nI (i + 1)), .int (nI (ra i)), v5] [.int (nI ((ra i) >>> 8))] (zW tl ta rn ra qn qa un σ us kn ρ ks pts edg nr rt sc wf ws bsz bop bbg ben ptx edx nrx rtx scx wfx wsx bsx box bbx bex suf)
    refine wq_stat (a := [.int (nI ((ra i) >>> 8))]) (rest := []) rfl rfl rfl rfl rfl ?_
    refine r_Z_ilen (AV_k hav) ?_
    show WP _ _ _ _ 39 [.ref 0, .int (nI k), .int (nI pl), .int (nI (i + 1)), .int (nI (ra i)), v5] [.int (nI (ilN ((ra i) >>> 8)))] (zW tl ta rn ra qn qa un σ us kn ρ ks pts edg nr rt sc wf ws bsz bop bbg ben ptx edx nrx rtx scx wfx wsx bsx box bbx bex suf)
    refine wq_istore (lv' := [.ref 0, .int (nI k), .int (nI pl), .int (nI (i + 1)), .int (nI (ra i)), .int (nI (ilN ((ra i) >>> 8)))]) rfl rfl rfl ?_
    refine wq_iload_n rfl rfl ?_
    refine wq_iload_n rfl rfl ?_
    refine wq_iload rfl rfl ?_
    refine wn_iadd rfl ?_
    refine wn_ic_ge rfl (by omega) (by omega) (fun c46 => ?_) (fun c46 => ?_)
    · skip
      refine wq_iload_n rfl rfl ?_
      refine wq_iload rfl rfl ?_
      refine wn_iadd rfl ?_
      refine wq_istore_n (lv' := [.ref 0, .int (nI k), .int (nI (pl + (ilN ((ra i) >>> 8)))), .int (nI (i + 1)), .int (nI (ra i)), .int (nI (ilN ((ra i) >>> 8)))]) rfl rfl rfl ?_
      refine wn_inc (lv' := [.ref 0, .int (nI k), .int (nI (pl + (ilN ((ra i) >>> 8)))), .int (nI (i + 1 + 1)), .int (nI (ra i)), .int (nI (ilN ((ra i) >>> 8)))]) rfl rfl rfl ?_
      refine wq_goto rfl ?_
      rw [if_neg (by omega), Nat.sub_sub] at he
      exact ih (i + 1) _ _ _ (by omega) (by omega) (by omega) he
    · skip
      refine wq_iload rfl rfl ?_
      refine wq_iload_n rfl rfl ?_
      refine wq_iload_n rfl rfl ?_
      refine wn_isub rfl (by omega) ?_
      refine wq_stat (a := [.int (nI (ra i)), .int (nI (k - pl))]) (rest := []) rfl rfl rfl rfl rfl ?_
      refine r_Z_letterOf hav (by omega) ?_
      show WP _ _ _ _ 57 [.ref 0, .int (nI k), .int (nI pl), .int (nI (i + 1)), .int (nI (ra i)), .int (nI (ilN ((ra i) >>> 8)))] [.int (nI (leN (ra i >>> 8) (ra i >>> 4 &&& 15) (ra i &&& 15) (k - pl)))] (zW tl ta rn ra qn qa un σ us kn ρ ks pts edg nr rt sc wf ws bsz bop bbg ben ptx edx nrx rtx scx wfx wsx bsx box bbx bex suf)
      refine wq_iret rfl trivial ?_
      rw [if_pos (by omega)] at he
      exact hQ _ he
theorem C_spelt {d : Nat} {suf : mH} {A : AS} {h : mH} {Q : Option Value → mH → Prop} (hR : CIA suf A h) {k : Nat} (hk0 : k < 2 ^ 31)  (hQ : ∀ h', CIA suf (f_spelt A k).2 h' → Q (some (.int (f_spelt A k).1)) h') : Rn mprog (d + 9) n_Z_spelt [.ref 0, .int (nI k)] h Q := by
  obtain ⟨tl, tb, ⟨rn, rb⟩, un, ua, kn, ka⟩ := A
  obtain ⟨ta, ra, qn, qa, σ, us, ρ, ks, pts, edg, nr, rt, sc, wf, ws, bsz, bop, bbg, ben, ptx, edx, nrx, rtx, scx, wfx, wsx, bsx, box, bbx, bex, rfl, hI⟩ := hR
  have hI0 := hI
  obtain ⟨hl, hta, hV0, hra, hqn, hu, hSu, hU, hk, hSk, hK, hNI, hbx⟩ := hI
  dsimp only at hl hta hV0 hra hqn hu hSu hU hk hSk hK hNI hbx
  have hE : EqR (rn, ra) (rn, rb) := ⟨rfl, hra⟩
  have hV : RV (rn, ra) := RV_congr hE hV0
  have hrn : rn ≤ 40 := hV.1
  obtain ⟨e1, e2, hnr0, hrt0, hsc0, hB, hO, hbv⟩ := hNI
  dsimp only at e1 e2 hnr0 hrt0 hsc0 hB hO hbv
  subst e1
  subst e2
  have hTV := stP hV0 (Nat.le_refl rn)
  have hpt := hTV.1.1
  have hnr : ∀ p, p < 9 → nr p < 512 := fun p hp => by rw [hnr0 p hp]; exact hTV.1.2.1.1 p hp
  obtain ⟨hn1, hq1⟩ := BL_BQ hV0 hB
  have hbz : ∀ i, i < bsz → bbg i < 2 ^ 31 ∧ ben i < 2 ^ 31 := fun i hi => hbv i (by omega)
  refine Rn.in rfl rfl rfl ?_
  show WP _ _ _ _ 0 [.ref 0, .int (nI k), .long 0, .long 0, .long 0, .long 0] [] (zW tl ta rn ra qn qa un σ us kn ρ ks ((stR rb rn).1) ((stR rb rn).2.1) nr rt sc wf ws bsz bop bbg ben ptx edx nrx rtx scx wfx wsx bsx box bbx bex suf)
  refine wq_iload_n rfl rfl ?_
  refine wn_if_ge rfl (by omega) ?_
  refine wq_iconst (v := nI 0) rfl (by decide) ?_
  refine wq_istore_n (lv' := [.ref 0, .int (nI k), .int (nI 0), .long 0, .long 0, .long 0]) rfl rfl rfl ?_
  refine wq_iconst (v := nI 1) rfl (by decide) ?_
  refine wq_istore_n (lv' := [.ref 0, .int (nI k), .int (nI 0), .int (nI 1), .long 0, .long 0]) rfl rfl rfl ?_
  refine l_Z_spelt hk0 hV (fun x hx => ?_) rn 0 0 _ _ (by omega) (by omega) (by omega) rfl
  rw [hx, spL_congr (rb := rb) rn 0 k (fun j hj => hra j (by omega))]
  exact fin_ (P := CIA suf) (A' := (tl, tb, (rn, rb), un, ua, kn, ka)) hQ (by unfold f_spelt; (try dsimp only); (repeat first | rw [if_pos (by omega)] | rw [if_neg (by omega)]); try rfl) ⟨_, _, _, _, _, _, _, _, _, _, _, _, _, _, _, _, _, _, _, _, _, _, _, _, _, _, _, _, _, _, rfl, hI0⟩
theorem C_spelt_neg {d : Nat} {suf : mH} {A : AS} {h : mH} {Q : Option Value → mH → Prop} (hR : CIA suf A h) {v1 : Int32} (hneg : v1 < 0) (hQ : ∀ h', CIA suf A h' → Q (some (.int (-1))) h') : Rn mprog (d + 9) n_Z_spelt [.ref 0, .int v1] h Q := by
  obtain ⟨tl, tb, ⟨rn, rb⟩, un, ua, kn, ka⟩ := A
  obtain ⟨ta, ra, qn, qa, σ, us, ρ, ks, pts, edg, nr, rt, sc, wf, ws, bsz, bop, bbg, ben, ptx, edx, nrx, rtx, scx, wfx, wsx, bsx, box, bbx, bex, rfl, hI⟩ := hR
  have hI0 := hI
  obtain ⟨hl, hta, hV0, hra, hqn, hu, hSu, hU, hk, hSk, hK, hNI, hbx⟩ := hI
  dsimp only at hl hta hV0 hra hqn hu hSu hU hk hSk hK hNI hbx
  have hE : EqR (rn, ra) (rn, rb) := ⟨rfl, hra⟩
  have hV : RV (rn, ra) := RV_congr hE hV0
  have hrn : rn ≤ 40 := hV.1
  obtain ⟨e1, e2, hnr0, hrt0, hsc0, hB, hO, hbv⟩ := hNI
  dsimp only at e1 e2 hnr0 hrt0 hsc0 hB hO hbv
  subst e1
  subst e2
  have hTV := stP hV0 (Nat.le_refl rn)
  have hpt := hTV.1.1
  have hnr : ∀ p, p < 9 → nr p < 512 := fun p hp => by rw [hnr0 p hp]; exact hTV.1.2.1.1 p hp
  obtain ⟨hn1, hq1⟩ := BL_BQ hV0 hB
  have hbz : ∀ i, i < bsz → bbg i < 2 ^ 31 ∧ ben i < 2 ^ 31 := fun i hi => hbv i (by omega)
  refine Rn.in rfl rfl rfl ?_
  show WP _ _ _ _ 0 [.ref 0, .int v1, .long 0, .long 0, .long 0, .long 0] [] (zW tl ta rn ra qn qa un σ us kn ρ ks ((stR rb rn).1) ((stR rb rn).2.1) nr rt sc wf ws bsz bop bbg ben ptx edx nrx rtx scx wfx wsx bsx box bbx bex suf)
  refine wq_iload_n rfl rfl ?_
  refine wq_if_ge rfl (fun c1 => absurd c1 (fun z => nI_ngl (k := 0) hneg (by decide) z)) (fun c1 => ?_)
  refine wq_iconst (v := (-1)) rfl (by decide) ?_
  refine wq_iret rfl trivial ?_
  exact hQ _ ⟨_, _, _, _, _, _, _, _, _, _, _, _, _, _, _, _, _, _, _, _, _, _, _, _, _, _, _, _, _, _, rfl, hI0⟩
theorem l_Z_stead {d : Nat} {tl : Nat} {ta : Nat → Nat} {rn : Nat} {ra : Nat → Nat} {un : Nat} {σ : Nat → Nat} {us : Nat → Rw} {kn : Nat} {ρ : Nat → Nat} {ks : Nat → Rw} {pts : Nat} {edg : Nat} {nr : Nat → Nat} {rt : Nat → Nat} {sc : Nat → Nat → Nat} {wf : Nat → Nat} {ws : Nat → Nat} {bsz : Nat} {bop : Nat} {bbg : Nat → Nat} {ben : Nat → Nat} {suf : mH} {Q : Option Value → mH → Prop} {w : Nat} {rb : Nat → Nat} (hV0 : RV (rn, rb)) (hE : EqR (rn, ra) (rn, rb)) (K : ∀ (qn : Nat) (qa : Nat → Nat) (ptx : Nat) (edx : Nat) (nrx : Nat → Nat) (rtx : Nat → Nat) (scx : Nat → Nat → Nat) (wfx : Nat → Nat) (wsx : Nat → Nat) (bsx : Nat) (box : Nat) (bbx : Nat → Nat) (bex : Nat → Nat) (v5 : Value), qn ≤ 40 → (∀ i, i < 40 → bbx i < 2 ^ 31 ∧ bex i < 2 ^ 31) → WP (Rn mprog (d + 8)) k_Z_steadiest (some .int) Q 78 [.ref 0, .int (nI w), .int ((pI 0 (stL rb rn (rn - 1)))), .int ((pI 1 (stL rb rn (rn - 1)))), .int (nI ((rn - 1) + 1)), v5] [] (zW tl ta rn ra qn qa un σ us kn ρ ks pts edg nr rt sc wf ws bsz bop bbg ben ptx edx nrx rtx scx wfx wsx bsx box bbx bex suf)) : ∀ (m i : Nat) (qn : Nat) (qa : Nat → Nat) (ptx : Nat) (edx : Nat) (nrx : Nat → Nat) (rtx : Nat → Nat) (scx : Nat → Nat → Nat) (wfx : Nat → Nat) (wsx : Nat → Nat) (bsx : Nat) (box : Nat) (bbx : Nat → Nat) (bex : Nat → Nat) (v5 : Value), i + m = rn - 1 → qn ≤ 40 → (∀ i, i < 40 → bbx i < 2 ^ 31 ∧ bex i < 2 ^ 31) → (∀ z, stL rb rn i = some z → z.2 ≤ 100) → WP (Rn mprog (d + 8)) k_Z_steadiest (some .int) Q 20 [.ref 0, .int (nI w), .int ((pI 0 (stL rb rn i))), .int ((pI 1 (stL rb rn i))), .int (nI (i + 1)), v5] [] (zW tl ta rn ra qn qa un σ us kn ρ ks pts edg nr rt sc wf ws bsz bop bbg ben ptx edx nrx rtx scx wfx wsx bsx box bbx bex suf) := by
  have hV : RV (rn, ra) := RV_congr hE hV0
  have hrn : rn ≤ 40 := hV.1
  intro m
  induction m with
  | zero =>
    intro i qn qa ptx edx nrx rtx scx wfx wsx bsx box bbx bex v5 hi hqn hbx hz
    have e : i = rn - 1 := by omega
    rw [← e] at K
    refine wq_iload rfl rfl ?_
    refine wq_aload_n rfl rfl ?_
    refine wq_getfield (v := .ref 3) rfl zo_0 rfl ?_
    refine wq_virt (b := 3) (a := []) (rest := [.int (nI (i + 1))]) rfl rfl rfl rfl rfl zo_3 ?_
    refine r_Row_size (ra := fun _ => 0) zo_3 ?_
    show WP _ _ _ _ 29 [.ref 0, .int (nI w), .int ((pI 0 (stL rb rn i))), .int ((pI 1 (stL rb rn i))), .int (nI (i + 1)), v5] [.int (nI rn), .int (nI (i + 1))] (zW tl ta rn ra qn qa un σ us kn ρ ks pts edg nr rt sc wf ws bsz bop bbg ben ptx edx nrx rtx scx wfx wsx bsx box bbx bex suf)
    refine wn_ic_ge rfl (by omega) (by omega) (fun c29 => ?_) (fun c29 => absurd c29 (by omega))
    exact K qn qa ptx edx nrx rtx scx wfx wsx bsx box bbx bex v5 hqn hbx
  | succ m ih =>
    intro i qn qa ptx edx nrx rtx scx wfx wsx bsx box bbx bex v5 hi hqn hbx hz
    refine wq_iload rfl rfl ?_
    refine wq_aload_n rfl rfl ?_
    refine wq_getfield (v := .ref 3) rfl zo_0 rfl ?_
    refine wq_virt (b := 3) (a := []) (rest := [.int (nI (i + 1))]) rfl rfl rfl rfl rfl zo_3 ?_
    refine r_Row_size (ra := fun _ => 0) zo_3 ?_
    show WP _ _ _ _ 29 [.ref 0, .int (nI w), .int ((pI 0 (stL rb rn i))), .int ((pI 1 (stL rb rn i))), .int (nI (i + 1)), v5] [.int (nI rn), .int (nI (i + 1))] (zW tl ta rn ra qn qa un σ us kn ρ ks pts edg nr rt sc wf ws bsz bop bbg ben ptx edx nrx rtx scx wfx wsx bsx box bbx bex suf)
    refine wn_ic_ge rfl (by omega) (by omega) (fun c29 => absurd c29 (by omega)) (fun c29 => ?_)
    refine wq_aload_n rfl rfl ?_
    refine wq_iload rfl rfl ?_
    refine wq_virt (b := 0) (a := [.int (nI (i + 1))]) (rest := []) rfl rfl rfl rfl rfl zo_0 ?_
    have hEs := swE (k := i + 1) hE (by omega)
    refine r_Z_try hrn hV.2.1 (by omega) (by omega) hbx (fun hok qa' ptx1 edx1 nrx1 rtx1 scx1 wfx1 wsx1 bsx1 box1 bbx1 bex1 hEq hNIx => ?_) (fun hno qa' ptx1 edx1 nrx1 rtx1 scx1 wfx1 wsx1 bsx1 box1 bbx1 bex1 hv1 => ?_)
    · skip
      show WP _ _ _ _ 38 [.ref 0, .int (nI w), .int ((pI 0 (stL rb rn i))), .int ((pI 1 (stL rb rn i))), .int (nI (i + 1)), v5] [.int (nI 1)] (zW tl ta rn ra rn qa' un σ us kn ρ ks pts edg nr rt sc wf ws bsz bop bbg ben ptx1 edx1 nrx1 rtx1 scx1 wfx1 wsx1 bsx1 box1 bbx1 bex1 suf)
      refine wq_if_eq rfl (fun c => absurd c (by decide)) (fun _ => ?_)
      refine wq_aload_n rfl rfl ?_
      refine wq_getfield (v := .ref 38) rfl zo_0 rfl ?_
      refine wq_getfield (v := .ref 46) rfl zo_38 rfl ?_
      refine wq_aload_n rfl rfl ?_
      refine wq_getfield (v := .ref 3) rfl zo_0 rfl ?_
      refine wq_virt (b := 3) (a := []) (rest := [.ref 46]) rfl rfl rfl rfl rfl zo_3 ?_
      refine r_Row_size (ra := fun _ => 0) zo_3 ?_
      show WP _ _ _ _ 55 [.ref 0, .int (nI w), .int ((pI 0 (stL rb rn i))), .int ((pI 1 (stL rb rn i))), .int (nI (i + 1)), v5] [.int (nI rn), .ref 46] (zW tl ta rn ra rn qa' un σ us kn ρ ks pts edg nr rt sc wf ws bsz bop bbg ben ptx1 edx1 nrx1 rtx1 scx1 wfx1 wsx1 bsx1 box1 bbx1 bex1 suf)
      refine wq_virt (b := 46) (a := [.int (nI rn)]) (rest := []) rfl rfl rfl rfl rfl zo_46 ?_
      have hok2 : okR (swA rb (i + 1)) rn := (okR_congr hEs.2).mp hok
      have hNIy := NI_congr hEs hNIx
      have hv1 := hNIx.2.2.2.2.2.2.2
      have hVs : RV (rn, swA rb (i + 1)) := ⟨hrn, sw_AV hV0.2.1 (by show i + 1 < rn; omega), hok2⟩
      have hB2 := hNIy.2.2.2.2.2.1
      obtain ⟨hn2, hq2⟩ := BL_BQ hVs hB2
      have hlb : loL rn (bsR (swA rb (i + 1)) rn) ≤ 100 := by rw [← BL_lo hB2]; exact mxN_le _ (fun j hj => lnN_le hrn (hq2 j hj).1.2.2.2)
      refine r_Bars_longest zo_46 zo_47b zo_48b hn2 hrn hq2 ?_
      rw [BL_lo hB2]
      show WP _ _ _ _ 58 [.ref 0, .int (nI w), .int ((pI 0 (stL rb rn i))), .int ((pI 1 (stL rb rn i))), .int (nI (i + 1)), v5] [.int (nI (loL rn (bsR (swA rb (i + 1)) rn)))] (zW tl ta rn ra rn qa' un σ us kn ρ ks pts edg nr rt sc wf ws bsz bop bbg ben ptx1 edx1 nrx1 rtx1 scx1 wfx1 wsx1 bsx1 box1 bbx1 bex1 suf)
      refine wq_istore (lv' := [.ref 0, .int (nI w), .int ((pI 0 (stL rb rn i))), .int ((pI 1 (stL rb rn i))), .int (nI (i + 1)), .int (nI (loL rn (bsR (swA rb (i + 1)) rn)))]) rfl rfl rfl ?_
      refine wq_iload rfl rfl ?_
      refine wq_iload_n rfl rfl ?_
      refine wq_ic_le rfl (fun c63 => ?_) (fun c63 => ?_)
      · skip
        refine wn_inc (lv' := [.ref 0, .int (nI w), .int ((pI 0 (stL rb rn i))), .int ((pI 1 (stL rb rn i))), .int (nI (i + 1 + 1)), .int (nI (loL rn (bsR (swA rb (i + 1)) rn)))]) rfl rfl rfl ?_
        refine wq_goto rfl ?_
        have hst := st_no ((okB_iff rn).mpr hok2) hz hlb c63
        rw [← hst]
        exact ih (i + 1) _ _ _ _ _ _ _ _ _ _ _ _ _ _ (by omega) hrn hv1 (by rw [hst]; exact hz)
      · skip
        refine wq_iload rfl rfl ?_
        refine wq_istore_n (lv' := [.ref 0, .int (nI w), .int ((pI 0 (stL rb rn i))), .int (nI (loL rn (bsR (swA rb (i + 1)) rn))), .int (nI (i + 1)), .int (nI (loL rn (bsR (swA rb (i + 1)) rn)))]) rfl rfl rfl ?_
        refine wq_iload rfl rfl ?_
        refine wq_istore_n (lv' := [.ref 0, .int (nI w), .int (nI (i + 1)), .int (nI (loL rn (bsR (swA rb (i + 1)) rn))), .int (nI (i + 1)), .int (nI (loL rn (bsR (swA rb (i + 1)) rn)))]) rfl rfl rfl ?_
        refine wn_inc (lv' := [.ref 0, .int (nI w), .int (nI (i + 1)), .int (nI (loL rn (bsR (swA rb (i + 1)) rn))), .int (nI (i + 1 + 1)), .int (nI (loL rn (bsR (swA rb (i + 1)) rn)))]) rfl rfl rfl ?_
        refine wq_goto rfl ?_
        have hst := st_yes ((okB_iff rn).mpr hok2) hz hlb c63
        have q := ih (i + 1) rn qa' ptx1 edx1 nrx1 rtx1 scx1 wfx1 wsx1 bsx1 box1 bbx1 bex1 (.int (nI (loL rn (bsR (swA rb (i + 1)) rn)))) (by omega) hrn hv1 (by rw [hst]; intro z hz2; cases hz2; exact hlb)
        rw [hst] at q
        exact q
    · skip
      show WP _ _ _ _ 38 [.ref 0, .int (nI w), .int ((pI 0 (stL rb rn i))), .int ((pI 1 (stL rb rn i))), .int (nI (i + 1)), v5] [.int (nI 0)] (zW tl ta rn ra rn qa' un σ us kn ρ ks pts edg nr rt sc wf ws bsz bop bbg ben ptx1 edx1 nrx1 rtx1 scx1 wfx1 wsx1 bsx1 box1 bbx1 bex1 suf)
      refine wq_if_eq rfl (fun _ => ?_) (fun c => absurd c (by decide))
      refine wn_inc (lv' := [.ref 0, .int (nI w), .int ((pI 0 (stL rb rn i))), .int ((pI 1 (stL rb rn i))), .int (nI (i + 1 + 1)), v5]) rfl rfl rfl ?_
      refine wq_goto rfl ?_
      have hob : okB (swA rb (i + 1)) rn = false := by cases z : okB (swA rb (i + 1)) rn with | false => rfl | true => exact absurd ((okR_congr hEs.2).mpr ((okB_iff rn).mp z)) hno
      have hst := st_none hob
      rw [← hst]
      exact ih (i + 1) _ _ _ _ _ _ _ _ _ _ _ _ _ _ (by omega) hrn hv1 (by rw [hst]; exact hz)
theorem C_steadiest {d : Nat} {suf : mH} {A : AS} {h : mH} {Q : Option Value → mH → Prop} (hR : CIA suf A h) {w : Nat} (hw0 : w < 2 ^ 31)  (hQ : ∀ h', CIA suf (f_stead A w).2 h' → Q (some (.int (f_stead A w).1)) h') : Rn mprog (d + 9) n_Z_steadiest [.ref 0, .int (nI w)] h Q := by
  obtain ⟨tl, tb, ⟨rn, rb⟩, un, ua, kn, ka⟩ := A
  obtain ⟨ta, ra, qn, qa, σ, us, ρ, ks, pts, edg, nr, rt, sc, wf, ws, bsz, bop, bbg, ben, ptx, edx, nrx, rtx, scx, wfx, wsx, bsx, box, bbx, bex, rfl, hI⟩ := hR
  have hI0 := hI
  obtain ⟨hl, hta, hV0, hra, hqn, hu, hSu, hU, hk, hSk, hK, hNI, hbx⟩ := hI
  dsimp only at hl hta hV0 hra hqn hu hSu hU hk hSk hK hNI hbx
  have hE : EqR (rn, ra) (rn, rb) := ⟨rfl, hra⟩
  have hV : RV (rn, ra) := RV_congr hE hV0
  have hrn : rn ≤ 40 := hV.1
  obtain ⟨e1, e2, hnr0, hrt0, hsc0, hB, hO, hbv⟩ := hNI
  dsimp only at e1 e2 hnr0 hrt0 hsc0 hB hO hbv
  subst e1
  subst e2
  have hTV := stP hV0 (Nat.le_refl rn)
  have hpt := hTV.1.1
  have hnr : ∀ p, p < 9 → nr p < 512 := fun p hp => by rw [hnr0 p hp]; exact hTV.1.2.1.1 p hp
  obtain ⟨hn1, hq1⟩ := BL_BQ hV0 hB
  have hbz : ∀ i, i < bsz → bbg i < 2 ^ 31 ∧ ben i < 2 ^ 31 := fun i hi => hbv i (by omega)
  refine Rn.in rfl rfl rfl ?_
  show WP _ _ _ _ 0 [.ref 0, .int (nI w), .long 0, .long 0, .long 0, .long 0] [] (zW tl ta rn ra qn qa un σ us kn ρ ks ((stR rb rn).1) ((stR rb rn).2.1) nr rt sc wf ws bsz bop bbg ben ptx edx nrx rtx scx wfx wsx bsx box bbx bex suf)
  refine wq_iload_n rfl rfl ?_
  refine wn_if_lt rfl (by omega) ?_
  refine wq_iload_n rfl rfl ?_
  refine wq_iconst (v := nI 1) rfl (by decide) ?_
  refine wn_ic_le rfl (by omega) (by omega) (fun c6 => ?_) (fun c6 => ?_)
  · skip
    refine wq_bipush (v := (-4)) rfl (by decide) ?_
    refine wq_istore_n (lv' := [.ref 0, .int (nI w), .int ((-4)), .long 0, .long 0, .long 0]) rfl rfl rfl ?_
    refine wq_bipush (v := (-4)) rfl (by decide) ?_
    refine wq_istore_n (lv' := [.ref 0, .int (nI w), .int ((-4)), .int ((-4)), .long 0, .long 0]) rfl rfl rfl ?_
    refine wq_iconst (v := nI 1) rfl (by decide) ?_
    refine wq_istore (lv' := [.ref 0, .int (nI w), .int ((-4)), .int ((-4)), .int (nI 1), .long 0]) rfl rfl rfl ?_
    refine l_Z_stead (w := w) hV0 hE ?_ (rn - 1) 0 _ _ _ _ _ _ _ _ _ _ _ _ _ _ (by omega) hqn hbx (fun z hz => by cases hz)
    intro qn2 qa2 ptx2 edx2 nrx2 rtx2 scx2 wfx2 wsx2 bsx2 box2 bbx2 bex2 v5 hqn2 hbx2
    show WP _ _ _ _ 78 [.ref 0, .int (nI w), .int ((pI 0 (stL rb rn (rn - 1)))), .int ((pI 1 (stL rb rn (rn - 1)))), .int (nI ((rn - 1) + 1)), v5] [] (zW tl ta rn ra qn2 qa2 un σ us kn ρ ks ((stR rb rn).1) ((stR rb rn).2.1) nr rt sc wf ws bsz bop bbg ben ptx2 edx2 nrx2 rtx2 scx2 wfx2 wsx2 bsx2 box2 bbx2 bex2 suf)
    refine wq_iload_n rfl rfl ?_
    refine wn_if_ne rfl (by omega) (fun c79 => ?_) (fun c79 => ?_)
    · skip
      refine wq_iload_n rfl rfl ?_
      refine wq_iret rfl trivial ?_
      have hw : w = 1 := by omega
      subst hw
      exact fin_ (P := CIA suf) (A' := (tl, tb, (rn, rb), un, ua, kn, ka)) hQ (by unfold f_stead; (try dsimp only); rw [if_neg (by decide)]) ⟨_, _, _, _, _, _, _, _, _, _, _, _, _, _, _, _, _, _, _, _, _, _, _, _, _, _, _, _, _, _, rfl, (CI_x hI0 hqn2 hbx2)⟩
    · skip
      refine wq_iload_n rfl rfl ?_
      refine wq_goto rfl ?_
      refine wq_iret rfl trivial ?_
      have hw : w = 0 := by omega
      subst hw
      exact fin_ (P := CIA suf) (A' := (tl, tb, (rn, rb), un, ua, kn, ka)) hQ (by unfold f_stead; (try dsimp only); rw [if_neg (by decide)]) ⟨_, _, _, _, _, _, _, _, _, _, _, _, _, _, _, _, _, _, _, _, _, _, _, _, _, _, _, _, _, _, rfl, (CI_x hI0 hqn2 hbx2)⟩
  · skip
    refine wq_iconst (v := (-1)) rfl (by decide) ?_
    refine wq_iret rfl trivial ?_
    exact fin_ (P := CIA suf) (A' := (tl, tb, (rn, rb), un, ua, kn, ka)) hQ (by unfold f_stead; (try dsimp only); (repeat first | rw [if_pos (by omega)] | rw [if_neg (by omega)]); try rfl) ⟨_, _, _, _, _, _, _, _, _, _, _, _, _, _, _, _, _, _, _, _, _, _, _, _, _, _, _, _, _, _, rfl, hI0⟩
theorem C_steadiest_neg {d : Nat} {suf : mH} {A : AS} {h : mH} {Q : Option Value → mH → Prop} (hR : CIA suf A h) {v1 : Int32} (hneg : v1 < 0) (hQ : ∀ h', CIA suf A h' → Q (some (.int (-1))) h') : Rn mprog (d + 9) n_Z_steadiest [.ref 0, .int v1] h Q := by
  obtain ⟨tl, tb, ⟨rn, rb⟩, un, ua, kn, ka⟩ := A
  obtain ⟨ta, ra, qn, qa, σ, us, ρ, ks, pts, edg, nr, rt, sc, wf, ws, bsz, bop, bbg, ben, ptx, edx, nrx, rtx, scx, wfx, wsx, bsx, box, bbx, bex, rfl, hI⟩ := hR
  have hI0 := hI
  obtain ⟨hl, hta, hV0, hra, hqn, hu, hSu, hU, hk, hSk, hK, hNI, hbx⟩ := hI
  dsimp only at hl hta hV0 hra hqn hu hSu hU hk hSk hK hNI hbx
  have hE : EqR (rn, ra) (rn, rb) := ⟨rfl, hra⟩
  have hV : RV (rn, ra) := RV_congr hE hV0
  have hrn : rn ≤ 40 := hV.1
  obtain ⟨e1, e2, hnr0, hrt0, hsc0, hB, hO, hbv⟩ := hNI
  dsimp only at e1 e2 hnr0 hrt0 hsc0 hB hO hbv
  subst e1
  subst e2
  have hTV := stP hV0 (Nat.le_refl rn)
  have hpt := hTV.1.1
  have hnr : ∀ p, p < 9 → nr p < 512 := fun p hp => by rw [hnr0 p hp]; exact hTV.1.2.1.1 p hp
  obtain ⟨hn1, hq1⟩ := BL_BQ hV0 hB
  have hbz : ∀ i, i < bsz → bbg i < 2 ^ 31 ∧ ben i < 2 ^ 31 := fun i hi => hbv i (by omega)
  refine Rn.in rfl rfl rfl ?_
  show WP _ _ _ _ 0 [.ref 0, .int v1, .long 0, .long 0, .long 0, .long 0] [] (zW tl ta rn ra qn qa un σ us kn ρ ks ((stR rb rn).1) ((stR rb rn).2.1) nr rt sc wf ws bsz bop bbg ben ptx edx nrx rtx scx wfx wsx bsx box bbx bex suf)
  refine wq_iload_n rfl rfl ?_
  refine wq_if_lt rfl (fun c1 => ?_) (fun c1 => absurd c1 (fun z => z hneg))
  refine wq_iconst (v := (-1)) rfl (by decide) ?_
  refine wq_iret rfl trivial ?_
  exact hQ _ ⟨_, _, _, _, _, _, _, _, _, _, _, _, _, _, _, _, _, _, _, _, _, _, _, _, _, _, _, _, _, _, rfl, hI0⟩
theorem l_Z_bw {d : Nat} {tl : Nat} {ta : Nat → Nat} {rn : Nat} {ra : Nat → Nat} {un : Nat} {σ : Nat → Nat} {us : Nat → Rw} {kn : Nat} {ρ : Nat → Nat} {ks : Nat → Rw} {pts : Nat} {edg : Nat} {nr : Nat → Nat} {rt : Nat → Nat} {sc : Nat → Nat → Nat} {wf : Nat → Nat} {ws : Nat → Nat} {bsz : Nat} {bop : Nat} {bbg : Nat → Nat} {ben : Nat → Nat} {ptx : Nat} {edx : Nat} {nrx : Nat → Nat} {rtx : Nat → Nat} {scx : Nat → Nat → Nat} {wfx : Nat → Nat} {wsx : Nat → Nat} {bsx : Nat} {box : Nat} {bbx : Nat → Nat} {bex : Nat → Nat} {suf : mH} {Q : Option Value → mH → Prop} (hV : RV (rn, ra)) (K : ∀ qa, (∀ j, j < rn → qa j = bwA ra rn j) → WP (Rn mprog (d + 8)) k_Z_backwards (some .int) Q 71 [.ref 0, .int (nI 0)] [] (zW tl ta rn ra rn qa un σ us kn ρ ks pts edg nr rt sc wf ws bsz bop bbg ben ptx edx nrx rtx scx wfx wsx bsx box bbx bex suf)) : ∀ (k qn : Nat) (qa : Nat → Nat), qn + k = rn → (∀ j, j < qn → qa j = bwA ra rn j) → WP (Rn mprog (d + 8)) k_Z_backwards (some .int) Q 42 [.ref 0, .int (nI k)] [] (zW tl ta rn ra qn qa un σ us kn ρ ks pts edg nr rt sc wf ws bsz bop bbg ben ptx edx nrx rtx scx wfx wsx bsx box bbx bex suf) := by
  have hrn : rn ≤ 40 := hV.1
  intro k
  induction k with
  | zero =>
    intro qn qa hq hv
    have e : qn = rn := by omega
    rw [e] at hv ⊢
    refine wq_iload_n rfl rfl ?_
    refine wq_iconst (v := nI 1) rfl (by decide) ?_
    refine wq_ic_lt rfl (fun _ => ?_) (fun c => absurd c (by decide))
    exact K qa hv
  | succ k ih =>
    intro qn qa hq hv
    have hav : AV (ra k) := hV.2.1 k (by show k < rn; omega)
    refine wq_iload_n rfl rfl ?_
    refine wq_iconst (v := nI 1) rfl (by decide) ?_
    refine wn_ic_lt rfl (by omega) (by omega) (fun c44 => absurd c44 (by omega)) (fun c44 => ?_)
    refine wq_aload_n rfl rfl ?_
    refine wq_getfield (v := .ref 5) rfl zo_0 rfl ?_
    refine wq_aload_n rfl rfl ?_
    refine wq_getfield (v := .ref 3) rfl zo_0 rfl ?_
    refine wq_iload_n rfl rfl ?_
    refine wq_virt (b := 3) (a := [.int (nI (k + 1))]) (rest := [.ref 5]) rfl rfl rfl rfl rfl zo_3 ?_
    refine r_Row_actAt zo_3 zo_4b (by omega) (by omega) (by omega) ?_
    rw [Nat.add_sub_cancel]
    show WP _ _ _ _ 59 [.ref 0, .int (nI (k + 1))] [.int (nI (ra k)), .ref 5] (zW tl ta rn ra qn qa un σ us kn ρ ks pts edg nr rt sc wf ws bsz bop bbg ben ptx edx nrx rtx scx wfx wsx bsx box bbx bex suf)
    refine wq_stat (a := [.int (nI (ra k))]) (rest := [.ref 5]) rfl rfl rfl rfl rfl ?_
    refine r_Z_otherWay hav ?_
    show WP _ _ _ _ 62 [.ref 0, .int (nI (k + 1))] [.int (nI (ivA (ra k))), .ref 5] (zW tl ta rn ra qn qa un σ us kn ρ ks pts edg nr rt sc wf ws bsz bop bbg ben ptx edx nrx rtx scx wfx wsx bsx box bbx bex suf)
    refine wq_virt (b := 5) (a := [.int (nI (ivA (ra k)))]) (rest := []) rfl rfl rfl rfl rfl zo_5 ?_
    rw [zv_q]
    refine r_Row_add (by rfl) (by omega) ?_
    rw [← zv_q]
    show WP _ _ _ _ 65 [.ref 0, .int (nI (k + 1))] [] (zW tl ta rn ra (qn + 1) (uN' qa qn (ivA (ra k))) un σ us kn ρ ks pts edg nr rt sc wf ws bsz bop bbg ben ptx edx nrx rtx scx wfx wsx bsx box bbx bex suf)
    refine wn_dec (lv' := [.ref 0, .int (nI k)]) rfl rfl rfl ?_
    refine wq_goto rfl ?_
    refine ih (qn + 1) _ (by omega) (fun j hj => ?_)
    by_cases e : j = qn
    · rw [e, uN_s]; unfold bwA; congr 2; omega
    · rw [uN_n e]; exact hv j (by omega)
theorem bwE {rn : Nat} {ra rb : Nat → Nat} (h : EqR (rn, ra) (rn, rb)) : EqR (rn, bwA ra rn) (rn, bwA rb rn) := ⟨rfl, fun i hi => by
  have hi : i < rn := hi
  show ivA (ra (rn - 1 - i)) = ivA (rb (rn - 1 - i))
  rw [show ra (rn - 1 - i) = rb (rn - 1 - i) from h.2 (rn - 1 - i) (by show _ < rn; omega)]⟩
theorem C_backwards {d : Nat} {suf : mH} {A : AS} {h : mH} {Q : Option Value → mH → Prop} (hR : CIA suf A h)   (hQ : ∀ h', CIA suf (f_backw A ).2 h' → Q (some (.int (f_backw A ).1)) h') : Rn mprog (d + 9) n_Z_backwards [.ref 0] h Q := by
  obtain ⟨tl, tb, ⟨rn, rb⟩, un, ua, kn, ka⟩ := A
  obtain ⟨ta, ra, qn, qa, σ, us, ρ, ks, pts, edg, nr, rt, sc, wf, ws, bsz, bop, bbg, ben, ptx, edx, nrx, rtx, scx, wfx, wsx, bsx, box, bbx, bex, rfl, hI⟩ := hR
  have hI0 := hI
  obtain ⟨hl, hta, hV0, hra, hqn, hu, hSu, hU, hk, hSk, hK, hNI, hbx⟩ := hI
  dsimp only at hl hta hV0 hra hqn hu hSu hU hk hSk hK hNI hbx
  have hE : EqR (rn, ra) (rn, rb) := ⟨rfl, hra⟩
  have hV : RV (rn, ra) := RV_congr hE hV0
  have hrn : rn ≤ 40 := hV.1
  obtain ⟨e1, e2, hnr0, hrt0, hsc0, hB, hO, hbv⟩ := hNI
  dsimp only at e1 e2 hnr0 hrt0 hsc0 hB hO hbv
  subst e1
  subst e2
  have hTV := stP hV0 (Nat.le_refl rn)
  have hpt := hTV.1.1
  have hnr : ∀ p, p < 9 → nr p < 512 := fun p hp => by rw [hnr0 p hp]; exact hTV.1.2.1.1 p hp
  obtain ⟨hn1, hq1⟩ := BL_BQ hV0 hB
  have hbz : ∀ i, i < bsz → bbg i < 2 ^ 31 ∧ ben i < 2 ^ 31 := fun i hi => hbv i (by omega)
  refine Rn.in rfl rfl rfl ?_
  show WP _ _ _ _ 0 [.ref 0, .long 0] [] (zW tl ta rn ra qn qa un σ us kn ρ ks ((stR rb rn).1) ((stR rb rn).2.1) nr rt sc wf ws bsz bop bbg ben ptx edx nrx rtx scx wfx wsx bsx box bbx bex suf)
  refine wq_aload_n rfl rfl ?_
  refine wq_getfield (v := .ref 27) rfl zo_0 rfl ?_
  refine wq_getfield (v := .ref 28) rfl zo_27 rfl ?_
  refine wq_virt (b := 28) (a := []) (rest := []) rfl rfl rfl rfl rfl zo_28 ?_
  rw [zv_ns]
  refine r_Net_points (by rfl) ?_
  rw [← zv_ns]
  show WP _ _ _ _ 10 [.ref 0, .long 0] [.int (nI ((stR rb rn).1))] (zW tl ta rn ra qn qa un σ us kn ρ ks ((stR rb rn).1) ((stR rb rn).2.1) nr rt sc wf ws bsz bop bbg ben ptx edx nrx rtx scx wfx wsx bsx box bbx bex suf)
  refine wn_if_eq rfl (by omega) (fun c10 => ?_) (fun c10 => ?_)
  · skip
    refine wq_aload_n rfl rfl ?_
    refine wq_getfield (v := .ref 7) rfl zo_0 rfl ?_
    refine wq_aload_n rfl rfl ?_
    refine wq_getfield (v := .ref 3) rfl zo_0 rfl ?_
    refine wq_virt (b := 7) (a := [.ref 3]) (rest := []) rfl rfl rfl rfl rfl zo_7 ?_
    rw [zv_u]
    refine r_Shf_put (rn := rn) (ra := ra) (by rfl) (by omega) (by omega) hSu (by omega) (by omega) (fun _ _ _ => by rfl) (fun _ _ _ => by rfl) ?_
    intro σ1 us1 hSu1 hpu1 hpu2
    rw [← zv_u]
    show WP _ _ _ _ 27 [.ref 0, .long 0] [] (zW tl ta rn ra qn qa (pz 6 un) σ1 us1 kn ρ ks ((stR rb rn).1) ((stR rb rn).2.1) nr rt sc wf ws bsz bop bbg ben ptx edx nrx rtx scx wfx wsx bsx box bbx bex suf)
    refine wq_aload_n rfl rfl ?_
    refine wq_getfield (v := .ref 5) rfl zo_0 rfl ?_
    refine wq_virt (b := 5) (a := []) (rest := []) rfl rfl rfl rfl rfl zo_5 ?_
    rw [zv_q]
    refine r_Row_empty (by rfl) ?_
    rw [← zv_q]
    show WP _ _ _ _ 34 [.ref 0, .long 0] [] (zW tl ta rn ra 0 qa (pz 6 un) σ1 us1 kn ρ ks ((stR rb rn).1) ((stR rb rn).2.1) nr rt sc wf ws bsz bop bbg ben ptx edx nrx rtx scx wfx wsx bsx box bbx bex suf)
    refine wq_aload_n rfl rfl ?_
    refine wq_getfield (v := .ref 3) rfl zo_0 rfl ?_
    refine wq_virt (b := 3) (a := []) (rest := []) rfl rfl rfl rfl rfl zo_3 ?_
    refine r_Row_size (ra := fun _ => 0) zo_3 ?_
    show WP _ _ _ _ 41 [.ref 0, .long 0] [.int (nI rn)] (zW tl ta rn ra 0 qa (pz 6 un) σ1 us1 kn ρ ks ((stR rb rn).1) ((stR rb rn).2.1) nr rt sc wf ws bsz bop bbg ben ptx edx nrx rtx scx wfx wsx bsx box bbx bex suf)
    refine wq_istore_n (lv' := [.ref 0, .int (nI rn)]) rfl rfl rfl ?_
    refine l_Z_bw hV ?_ rn 0 _ (by omega) (fun j hj => absurd hj (Nat.not_lt_zero j))
    intro qa2 hqa2
    show WP _ _ _ _ 71 [.ref 0, .int (nI 0)] [] (zW tl ta rn ra rn qa2 (pz 6 un) σ1 us1 kn ρ ks ((stR rb rn).1) ((stR rb rn).2.1) nr rt sc wf ws bsz bop bbg ben ptx edx nrx rtx scx wfx wsx bsx box bbx bex suf)
    refine wq_aload_n rfl rfl ?_
    refine wq_getfield (v := .ref 3) rfl zo_0 rfl ?_
    refine wq_aload_n rfl rfl ?_
    refine wq_getfield (v := .ref 5) rfl zo_0 rfl ?_
    refine wq_virt (b := 3) (a := [.ref 5]) (rest := []) rfl rfl rfl rfl rfl zo_3 ?_
    rw [zv_r]
    refine r_Row_copy (m := rn) (g := qa2) (by rfl) (by omega) (fun _ _ => by rfl) (fun _ _ => by rfl) ?_
    rw [← zv_r]
    show WP _ _ _ _ 82 [.ref 0, .int (nI 0)] [] (zW tl ta rn (cpA qa2 ra rn) rn qa2 (pz 6 un) σ1 us1 kn ρ ks ((stR rb rn).1) ((stR rb rn).2.1) nr rt sc wf ws bsz bop bbg ben ptx edx nrx rtx scx wfx wsx bsx box bbx bex suf)
    have hVb : RV (rn, bwA rb rn) := bw_RV hV0 c10
    have hE9 : EqR (rn, cpA qa2 ra rn) (rn, bwA rb rn) := EqR_tr (s := (rn, qa2)) ⟨rfl, fun i hi => cpA_in hi⟩ (EqR_tr (s := (rn, bwA ra rn)) ⟨rfl, hqa2⟩ (bwE hE))
    refine wq_aload_n rfl rfl ?_
    refine wq_virt (b := 0) (a := []) (rest := []) rfl rfl rfl rfl rfl zo_0 ?_
    refine r_Z_tell (RV_congr hE9 hVb) hbv ?_
    intro pts1 edg1 nr1 rt1 sc1 wf1 ws1 bsz1 bop1 bbg1 ben1 hNI1
    show WP _ _ _ _ 86 [.ref 0, .int (nI 0)] [] (zW tl ta rn (cpA qa2 ra rn) rn qa2 (pz 6 un) σ1 us1 kn ρ ks pts1 edg1 nr1 rt1 sc1 wf1 ws1 bsz1 bop1 bbg1 ben1 ptx edx nrx rtx scx wfx wsx bsx box bbx bex suf)
    refine wq_aload_n rfl rfl ?_
    refine wq_getfield (v := .ref 3) rfl zo_0 rfl ?_
    refine wq_virt (b := 3) (a := []) (rest := []) rfl rfl rfl rfl rfl zo_3 ?_
    refine r_Row_size (ra := fun _ => 0) zo_3 ?_
    show WP _ _ _ _ 93 [.ref 0, .int (nI 0)] [.int (nI rn)] (zW tl ta rn (cpA qa2 ra rn) rn qa2 (pz 6 un) σ1 us1 kn ρ ks pts1 edg1 nr1 rt1 sc1 wf1 ws1 bsz1 bop1 bbg1 ben1 ptx edx nrx rtx scx wfx wsx bsx box bbx bex suf)
    refine wq_iret rfl trivial ?_
    exact fin_ (P := CIA suf) (A' := sR (nT (tl, tb, (rn, rb), un, ua, kn, ka)) (rn, bwA rb rn)) hQ (by unfold f_backw; (try dsimp only); rw [if_pos (show (sT (tl, tb, (rn, rb), un, ua, kn, ka)).1 = 0 from c10)]) ⟨_, _, _, _, _, _, _, _, _, _, _, _, _, _, _, _, _, _, _, _, _, _, _, _, _, _, _, _, _, _, rfl, (CI_put hI0 hSu1 hpu1 hpu2 hVb hE9.2 hrn (NI_congr hE9 hNI1) hbx)⟩
  · skip
    refine wq_bipush (v := (-2)) rfl (by decide) ?_
    refine wq_iret rfl trivial ?_
    exact fin_ (P := CIA suf) (A' := (tl, tb, (rn, rb), un, ua, kn, ka)) hQ (by unfold f_backw; (try dsimp only); rw [if_neg (show ¬ (sT (tl, tb, (rn, rb), un, ua, kn, ka)).1 = 0 from c10)]) ⟨_, _, _, _, _, _, _, _, _, _, _, _, _, _, _, _, _, _, _, _, _, _, _, _, _, _, _, _, _, _, rfl, hI0⟩
theorem EqR_rAd {r r' : Rw} (h : EqR r r') (ac : Nat) : EqR (rAd r ac) (rAd r' ac) := by
  refine ⟨by show r.1 + 1 = r'.1 + 1; rw [h.1], fun i hi => ?_⟩
  have hi : i < r.1 + 1 := hi
  show uN' r.2 r.1 ac i = uN' r'.2 r'.1 ac i
  rw [← h.1]
  by_cases e : i = r.1
  · rw [e, uN_s, uN_s]
  · rw [uN_n e, uN_n e]; exact h.2 i (by omega)
theorem cl1_E {nr : Nat → Nat} {a : Nat} {r r' : Rw} (h : EqR r r') : ∀ i, EqR (cl1 nr a r i) (cl1 nr a r' i)
  | 0 => h
  | i + 1 => by
    rw [cl1_s, cl1_s]
    split
    · exact EqR_rAd (cl1_E h i) _
    · exact cl1_E h i
theorem cl2_E {nr : Nat → Nat} {r r' : Rw} (h : EqR r r') : ∀ i, EqR (cl2 nr r i) (cl2 nr r' i)
  | 0 => h
  | i + 1 => cl1_E (cl2_E h i) (8 - i)
theorem cl3_E {th : Nat} {r r' : Rw} (h : EqR r r') : ∀ i, EqR (cl3 th r i) (cl3 th r' i)
  | 0 => h
  | i + 1 => by
    rw [cl3_s, cl3_s]
    split
    · exact EqR_rAd (cl3_E h i) _
    · exact cl3_E h i
theorem clR_E {r r' : Rw} (h : EqR r r') : EqR (clR r) (clR r') := by
  unfold clR
  rw [stE' h]
  exact cl3_E (cl2_E h 9) 9
theorem l_Z_clI {d : Nat} {tl : Nat} {ta : Nat → Nat} {qn : Nat} {qa : Nat → Nat} {un : Nat} {σ : Nat → Nat} {us : Nat → Rw} {kn : Nat} {ρ : Nat → Nat} {ks : Nat → Rw} {pts : Nat} {edg : Nat} {nr : Nat → Nat} {rt : Nat → Nat} {sc : Nat → Nat → Nat} {wf : Nat → Nat} {ws : Nat → Nat} {bsz : Nat} {bop : Nat} {bbg : Nat → Nat} {ben : Nat → Nat} {ptx : Nat} {edx : Nat} {nrx : Nat → Nat} {rtx : Nat → Nat} {scx : Nat → Nat → Nat} {wfx : Nat → Nat} {wsx : Nat → Nat} {bsx : Nat} {box : Nat} {bbx : Nat → Nat} {bex : Nat → Nat} {suf : mH} {Q : Option Value → mH → Prop} {τ : TT} {n : Nat} {r : Rw} (hn : n ≤ 40) {a : Nat} (ha : a < 9) (hC : CE τ n a (a + 1) r) (hnr0 : ∀ p, p < 9 → nr p = τ.2.2.1 p) (hnr : ∀ p, p < 9 → nr p < 512) (K : ∀ rn ra, (rn, ra) = cl1 τ.2.2.1 a r (8 - a) → WP (Rn mprog (d + 7)) k_Z_addEdgesGoing none Q 52 [.ref 0, .int (nI a), .int (nI (a + 1 + (8 - a)))] [] (zW tl ta rn ra qn qa un σ us kn ρ ks pts edg nr rt sc wf ws bsz bop bbg ben ptx edx nrx rtx scx wfx wsx bsx box bbx bex suf)) : ∀ (m i rn : Nat) (ra : Nat → Nat), i + m = 8 - a → (rn, ra) = cl1 τ.2.2.1 a r i → WP (Rn mprog (d + 7)) k_Z_addEdgesGoing none Q 12 [.ref 0, .int (nI a), .int (nI (a + 1 + i))] [] (zW tl ta rn ra qn qa un σ us kn ρ ks pts edg nr rt sc wf ws bsz bop bbg ben ptx edx nrx rtx scx wfx wsx bsx box bbx bex suf) := by
  intro m
  induction m with
  | zero =>
    intro i rn ra hi hv
    have e : i = 8 - a := by omega
    rw [← e] at K
    refine wq_iload_n rfl rfl ?_
    refine wq_bipush (v := nI 9) rfl (by decide) ?_
    refine wn_ic_ge rfl (by omega) (by omega) (fun c15 => ?_) (fun c15 => absurd c15 (by omega))
    exact K rn ra hv
  | succ m ih =>
    intro i rn ra hi hv
    have hst := CE_step hn (by omega) (CE_1 hn ha hC i (by omega))
    have hv1 : rn = (cl1 τ.2.2.1 a r i).1 := congrArg Prod.fst hv
    have hna := hnr0 a ha
    refine wq_iload_n rfl rfl ?_
    refine wq_bipush (v := nI 9) rfl (by decide) ?_
    refine wn_ic_ge rfl (by omega) (by omega) (fun c15 => absurd c15 (by omega)) (fun c15 => ?_)
    refine wq_aload_n rfl rfl ?_
    refine wq_getfield (v := .ref 27) rfl zo_0 rfl ?_
    refine wq_getfield (v := .ref 28) rfl zo_27 rfl ?_
    refine wq_iload_n rfl rfl ?_
    refine wq_iload_n rfl rfl ?_
    refine wq_virt (b := 28) (a := [.int (nI a), .int (nI (a + 1 + i))]) (rest := []) rfl rfl rfl rfl rfl zo_28 ?_
    rw [zv_ns]
    refine r_Net_joined (by rfl) (by omega) (by omega) hnr (fun c27 => ?_) (fun c27 => ?_)
    all_goals rw [← zv_ns]
    · skip
      show WP _ _ _ _ 30 [.ref 0, .int (nI a), .int (nI (a + 1 + i))] [.int (nI 1)] (zW tl ta rn ra qn qa un σ us kn ρ ks pts edg nr rt sc wf ws bsz bop bbg ben ptx edx nrx rtx scx wfx wsx bsx box bbx bex suf)
      have c27' := c27
      rw [hna] at c27'
      refine wq_if_eq rfl (fun c => absurd c (by decide)) (fun _ => ?_)
      have h40 := (hst.1 c27').1
      refine wq_aload_n rfl rfl ?_
      refine wq_getfield (v := .ref 3) rfl zo_0 rfl ?_
      refine wq_iconst (v := nI 3) rfl (by decide) ?_
      refine wq_iload_n rfl rfl ?_
      refine wq_iload_n rfl rfl ?_
      refine wq_stat (a := [.int (nI 3), .int (nI a), .int (nI (a + 1 + i))]) (rest := [.ref 3]) rfl rfl rfl rfl rfl ?_
      refine r_Z_actOf rfl rfl (by decide) (by omega) (by omega) ?_
      show WP _ _ _ _ 43 [.ref 0, .int (nI a), .int (nI (a + 1 + i))] [.int (nI (acN 3 a (a + 1 + i))), .ref 3] (zW tl ta rn ra qn qa un σ us kn ρ ks pts edg nr rt sc wf ws bsz bop bbg ben ptx edx nrx rtx scx wfx wsx bsx box bbx bex suf)
      refine wq_virt (b := 3) (a := [.int (nI (acN 3 a (a + 1 + i)))]) (rest := []) rfl rfl rfl rfl rfl zo_3 ?_
      rw [zv_r]
      refine r_Row_add (by rfl) (by omega) ?_
      rw [← zv_r]
      show WP _ _ _ _ 46 [.ref 0, .int (nI a), .int (nI (a + 1 + i))] [] (zW tl ta (rn + 1) (uN' ra rn (acN 3 a (a + 1 + i))) qn qa un σ us kn ρ ks pts edg nr rt sc wf ws bsz bop bbg ben ptx edx nrx rtx scx wfx wsx bsx box bbx bex suf)
      refine wn_inc (lv' := [.ref 0, .int (nI a), .int (nI (a + 1 + i + 1))]) rfl rfl rfl ?_
      refine wq_goto rfl ?_
      refine ih (i + 1) _ _ (by omega) ?_
      rw [cl1_s, if_pos c27', ← hv]
      rfl
    · skip
      show WP _ _ _ _ 30 [.ref 0, .int (nI a), .int (nI (a + 1 + i))] [.int (nI 0)] (zW tl ta rn ra qn qa un σ us kn ρ ks pts edg nr rt sc wf ws bsz bop bbg ben ptx edx nrx rtx scx wfx wsx bsx box bbx bex suf)
      have c27' := c27
      rw [hna] at c27'
      refine wq_if_eq rfl (fun _ => ?_) (fun c => absurd c (by decide))
      refine wn_inc (lv' := [.ref 0, .int (nI a), .int (nI (a + 1 + i + 1))]) rfl rfl rfl ?_
      refine wq_goto rfl ?_
      refine ih (i + 1) _ _ (by omega) ?_
      rw [cl1_s, if_neg (by rw [c27']; decide)]
      exact hv
theorem l_Z_clO {d : Nat} {tl : Nat} {ta : Nat → Nat} {qn : Nat} {qa : Nat → Nat} {un : Nat} {σ : Nat → Nat} {us : Nat → Rw} {kn : Nat} {ρ : Nat → Nat} {ks : Nat → Rw} {pts : Nat} {edg : Nat} {nr : Nat → Nat} {rt : Nat → Nat} {sc : Nat → Nat → Nat} {wf : Nat → Nat} {ws : Nat → Nat} {bsz : Nat} {bop : Nat} {bbg : Nat → Nat} {ben : Nat → Nat} {ptx : Nat} {edx : Nat} {nrx : Nat → Nat} {rtx : Nat → Nat} {scx : Nat → Nat → Nat} {wfx : Nat → Nat} {wsx : Nat → Nat} {bsx : Nat} {box : Nat} {bbx : Nat → Nat} {bex : Nat → Nat} {suf : mH} {Q : Option Value → mH → Prop} {τ : TT} {n : Nat} {r : Rw} (hn : n ≤ 40) (hC : CE τ n 0 1 r) (hnr0 : ∀ p, p < 9 → nr p = τ.2.2.1 p) (hnr : ∀ p, p < 9 → nr p < 512) (hQ : ∀ rn ra, (rn, ra) = cl2 τ.2.2.1 r 9 → Q none (zW tl ta rn ra qn qa un σ us kn ρ ks pts edg nr rt sc wf ws bsz bop bbg ben ptx edx nrx rtx scx wfx wsx bsx box bbx bex suf)) : ∀ (m i rn : Nat) (ra : Nat → Nat) (v2 : Value), i + m = 9 → (rn, ra) = cl2 τ.2.2.1 r i → WP (Rn mprog (d + 7)) k_Z_addEdgesGoing none Q 2 [.ref 0, .int (nI i), v2] [] (zW tl ta rn ra qn qa un σ us kn ρ ks pts edg nr rt sc wf ws bsz bop bbg ben ptx edx nrx rtx scx wfx wsx bsx box bbx bex suf) := by
  intro m
  induction m with
  | zero =>
    intro i rn ra v2 hi hv
    have e : i = 9 := by omega
    subst e
    refine wq_iload_n rfl rfl ?_
    refine wq_bipush (v := nI 9) rfl (by decide) ?_
    refine wq_ic_ge rfl (fun _ => ?_) (fun c => absurd c (by decide))
    refine wq_vret rfl rfl ?_
    exact hQ rn ra hv
  | succ m ih =>
    intro i rn ra v2 hi hv
    refine wq_iload_n rfl rfl ?_
    refine wq_bipush (v := nI 9) rfl (by decide) ?_
    refine wn_ic_ge rfl (by omega) (by omega) (fun c5 => absurd c5 (by omega)) (fun c5 => ?_)
    refine wq_iload_n rfl rfl ?_
    refine wq_iconst (v := nI 1) rfl (by decide) ?_
    refine wn_iadd rfl ?_
    refine wq_istore_n (lv' := [.ref 0, .int (nI i), .int (nI (i + 1))]) rfl rfl rfl ?_
    refine l_Z_clI (a := i) hn (by omega) (CE_2 hn hC i (by omega)) hnr0 hnr ?_ (8 - i) 0 _ _ (by omega) hv
    intro rn2 ra2 hv2
    show WP _ _ _ _ 52 [.ref 0, .int (nI i), .int (nI (i + 1 + (8 - i)))] [] (zW tl ta rn2 ra2 qn qa un σ us kn ρ ks pts edg nr rt sc wf ws bsz bop bbg ben ptx edx nrx rtx scx wfx wsx bsx box bbx bex suf)
    refine wn_inc (lv' := [.ref 0, .int (nI (i + 1)), .int (nI (i + 1 + (8 - i)))]) rfl rfl rfl ?_
    refine wq_goto rfl ?_
    exact ih (i + 1) _ _ _ (by omega) hv2
theorem r_Z_clE {d : Nat} {tl : Nat} {ta : Nat → Nat} {rn : Nat} {ra : Nat → Nat} {qn : Nat} {qa : Nat → Nat} {un : Nat} {σ : Nat → Nat} {us : Nat → Rw} {kn : Nat} {ρ : Nat → Nat} {ks : Nat → Rw} {pts : Nat} {edg : Nat} {nr : Nat → Nat} {rt : Nat → Nat} {sc : Nat → Nat → Nat} {wf : Nat → Nat} {ws : Nat → Nat} {bsz : Nat} {bop : Nat} {bbg : Nat → Nat} {ben : Nat → Nat} {ptx : Nat} {edx : Nat} {nrx : Nat → Nat} {rtx : Nat → Nat} {scx : Nat → Nat → Nat} {wfx : Nat → Nat} {wsx : Nat → Nat} {bsx : Nat} {box : Nat} {bbx : Nat → Nat} {bex : Nat → Nat} {suf : mH} {Q : Option Value → mH → Prop} {τ : TT} {n : Nat} (hn : n ≤ 40) (hC : CE τ n 0 1 (rn, ra)) (hnr0 : ∀ p, p < 9 → nr p = τ.2.2.1 p) (hnr : ∀ p, p < 9 → nr p < 512) (hQ : ∀ rn' ra', (rn', ra') = cl2 τ.2.2.1 (rn, ra) 9 → Q none (zW tl ta rn' ra' qn qa un σ us kn ρ ks pts edg nr rt sc wf ws bsz bop bbg ben ptx edx nrx rtx scx wfx wsx bsx box bbx bex suf)) : Rn mprog (d + 8) n_Z_addEdgesGoing [.ref 0] (zW tl ta rn ra qn qa un σ us kn ρ ks pts edg nr rt sc wf ws bsz bop bbg ben ptx edx nrx rtx scx wfx wsx bsx box bbx bex suf) Q := by
  refine Rn.in rfl rfl rfl ?_
  show WP _ _ _ _ 0 [.ref 0, .long 0, .long 0] [] (zW tl ta rn ra qn qa un σ us kn ρ ks pts edg nr rt sc wf ws bsz bop bbg ben ptx edx nrx rtx scx wfx wsx bsx box bbx bex suf)
  refine wq_iconst (v := nI 0) rfl (by decide) ?_
  refine wq_istore_n (lv' := [.ref 0, .int (nI 0), .long 0]) rfl rfl rfl ?_
  exact l_Z_clO hn hC hnr0 hnr hQ 9 0 rn ra _ rfl rfl
theorem l_Z_clP {d : Nat} {tl : Nat} {ta : Nat → Nat} {qn : Nat} {qa : Nat → Nat} {un : Nat} {σ : Nat → Nat} {us : Nat → Rw} {kn : Nat} {ρ : Nat → Nat} {ks : Nat → Rw} {pts : Nat} {edg : Nat} {nr : Nat → Nat} {rt : Nat → Nat} {sc : Nat → Nat → Nat} {wf : Nat → Nat} {ws : Nat → Nat} {bsz : Nat} {bop : Nat} {bbg : Nat → Nat} {ben : Nat → Nat} {ptx : Nat} {edx : Nat} {nrx : Nat → Nat} {rtx : Nat → Nat} {scx : Nat → Nat → Nat} {wfx : Nat → Nat} {wsx : Nat → Nat} {bsx : Nat} {box : Nat} {bbx : Nat → Nat} {bex : Nat → Nat} {suf : mH} {Q : Option Value → mH → Prop} {n : Nat} {r : Rw} (hn : n ≤ 40) (hpt : pts < 512) (hC : CP pts n 0 r) (hQ : ∀ rn ra, (rn, ra) = cl3 pts r 9 → Q none (zW tl ta rn ra qn qa un σ us kn ρ ks pts edg nr rt sc wf ws bsz bop bbg ben ptx edx nrx rtx scx wfx wsx bsx box bbx bex suf)) : ∀ (m i rn : Nat) (ra : Nat → Nat), i + m = 9 → (rn, ra) = cl3 pts r i → WP (Rn mprog (d + 7)) k_Z_addPointsGoing none Q 2 [.ref 0, .int (nI i)] [] (zW tl ta rn ra qn qa un σ us kn ρ ks pts edg nr rt sc wf ws bsz bop bbg ben ptx edx nrx rtx scx wfx wsx bsx box bbx bex suf) := by
  intro m
  induction m with
  | zero =>
    intro i rn ra hi hv
    have e : i = 9 := by omega
    subst e
    refine wq_iload_n rfl rfl ?_
    refine wq_bipush (v := nI 9) rfl (by decide) ?_
    refine wq_ic_ge rfl (fun _ => ?_) (fun c => absurd c (by decide))
    refine wq_vret rfl rfl ?_
    exact hQ rn ra hv
  | succ m ih =>
    intro i rn ra hi hv
    have hst := CP_step hn (by omega) (CP_i hn hC i (by omega))
    have hv1 : rn = (cl3 pts r i).1 := congrArg Prod.fst hv
    refine wq_iload_n rfl rfl ?_
    refine wq_bipush (v := nI 9) rfl (by decide) ?_
    refine wn_ic_ge rfl (by omega) (by omega) (fun c5 => absurd c5 (by omega)) (fun c5 => ?_)
    refine wq_aload_n rfl rfl ?_
    refine wq_getfield (v := .ref 27) rfl zo_0 rfl ?_
    refine wq_getfield (v := .ref 28) rfl zo_27 rfl ?_
    refine wq_iload_n rfl rfl ?_
    refine wq_virt (b := 28) (a := [.int (nI i)]) (rest := []) rfl rfl rfl rfl rfl zo_28 ?_
    rw [zv_ns]
    refine r_Net_has (by rfl) (by omega) hpt (fun c16 => ?_) (fun c16 => ?_)
    all_goals rw [← zv_ns]
    · skip
      show WP _ _ _ _ 19 [.ref 0, .int (nI i)] [.int (nI 1)] (zW tl ta rn ra qn qa un σ us kn ρ ks pts edg nr rt sc wf ws bsz bop bbg ben ptx edx nrx rtx scx wfx wsx bsx box bbx bex suf)
      refine wq_if_eq rfl (fun c => absurd c (by decide)) (fun _ => ?_)
      have h40 := (hst.1 c16).1
      refine wq_aload_n rfl rfl ?_
      refine wq_getfield (v := .ref 3) rfl zo_0 rfl ?_
      refine wq_iconst (v := nI 1) rfl (by decide) ?_
      refine wq_iload_n rfl rfl ?_
      refine wq_iload_n rfl rfl ?_
      refine wq_stat (a := [.int (nI 1), .int (nI i), .int (nI i)]) (rest := [.ref 3]) rfl rfl rfl rfl rfl ?_
      refine r_Z_actOf rfl rfl (by decide) (by omega) (by omega) ?_
      show WP _ _ _ _ 32 [.ref 0, .int (nI i)] [.int (nI (acN 1 i i)), .ref 3] (zW tl ta rn ra qn qa un σ us kn ρ ks pts edg nr rt sc wf ws bsz bop bbg ben ptx edx nrx rtx scx wfx wsx bsx box bbx bex suf)
      refine wq_virt (b := 3) (a := [.int (nI (acN 1 i i))]) (rest := []) rfl rfl rfl rfl rfl zo_3 ?_
      rw [zv_r]
      refine r_Row_add (by rfl) (by omega) ?_
      rw [← zv_r]
      show WP _ _ _ _ 35 [.ref 0, .int (nI i)] [] (zW tl ta (rn + 1) (uN' ra rn (acN 1 i i)) qn qa un σ us kn ρ ks pts edg nr rt sc wf ws bsz bop bbg ben ptx edx nrx rtx scx wfx wsx bsx box bbx bex suf)
      refine wn_inc (lv' := [.ref 0, .int (nI (i + 1))]) rfl rfl rfl ?_
      refine wq_goto rfl ?_
      refine ih (i + 1) _ _ (by omega) ?_
      rw [cl3_s, if_pos c16, ← hv, acN_b (y := i) (y' := 0) (by decide : 1 < 2)]
      rfl
    · skip
      show WP _ _ _ _ 19 [.ref 0, .int (nI i)] [.int (nI 0)] (zW tl ta rn ra qn qa un σ us kn ρ ks pts edg nr rt sc wf ws bsz bop bbg ben ptx edx nrx rtx scx wfx wsx bsx box bbx bex suf)
      refine wq_if_eq rfl (fun _ => ?_) (fun c => absurd c (by decide))
      refine wn_inc (lv' := [.ref 0, .int (nI (i + 1))]) rfl rfl rfl ?_
      refine wq_goto rfl ?_
      refine ih (i + 1) _ _ (by omega) ?_
      rw [cl3_s, if_neg (by rw [c16]; decide)]
      exact hv
theorem r_Z_clP {d : Nat} {tl : Nat} {ta : Nat → Nat} {rn : Nat} {ra : Nat → Nat} {qn : Nat} {qa : Nat → Nat} {un : Nat} {σ : Nat → Nat} {us : Nat → Rw} {kn : Nat} {ρ : Nat → Nat} {ks : Nat → Rw} {pts : Nat} {edg : Nat} {nr : Nat → Nat} {rt : Nat → Nat} {sc : Nat → Nat → Nat} {wf : Nat → Nat} {ws : Nat → Nat} {bsz : Nat} {bop : Nat} {bbg : Nat → Nat} {ben : Nat → Nat} {ptx : Nat} {edx : Nat} {nrx : Nat → Nat} {rtx : Nat → Nat} {scx : Nat → Nat → Nat} {wfx : Nat → Nat} {wsx : Nat → Nat} {bsx : Nat} {box : Nat} {bbx : Nat → Nat} {bex : Nat → Nat} {suf : mH} {Q : Option Value → mH → Prop} {n : Nat} (hn : n ≤ 40) (hpt : pts < 512) (hC : CP pts n 0 (rn, ra)) (hQ : ∀ rn' ra', (rn', ra') = cl3 pts (rn, ra) 9 → Q none (zW tl ta rn' ra' qn qa un σ us kn ρ ks pts edg nr rt sc wf ws bsz bop bbg ben ptx edx nrx rtx scx wfx wsx bsx box bbx bex suf)) : Rn mprog (d + 8) n_Z_addPointsGoing [.ref 0] (zW tl ta rn ra qn qa un σ us kn ρ ks pts edg nr rt sc wf ws bsz bop bbg ben ptx edx nrx rtx scx wfx wsx bsx box bbx bex suf) Q := by
  refine Rn.in rfl rfl rfl ?_
  show WP _ _ _ _ 0 [.ref 0, .long 0] [] (zW tl ta rn ra qn qa un σ us kn ρ ks pts edg nr rt sc wf ws bsz bop bbg ben ptx edx nrx rtx scx wfx wsx bsx box bbx bex suf)
  refine wq_iconst (v := nI 0) rfl (by decide) ?_
  refine wq_istore_n (lv' := [.ref 0, .int (nI 0)]) rfl rfl rfl ?_
  exact l_Z_clP hn hpt hC hQ 9 0 rn ra rfl rfl
theorem C_clear {d : Nat} {suf : mH} {A : AS} {h : mH} {Q : Option Value → mH → Prop} (hR : CIA suf A h)   (hQ : ∀ h', CIA suf (f_clear A ).2 h' → Q (some (.int (f_clear A ).1)) h') : Rn mprog (d + 9) n_Z_clear [.ref 0] h Q := by
  obtain ⟨tl, tb, ⟨rn, rb⟩, un, ua, kn, ka⟩ := A
  obtain ⟨ta, ra, qn, qa, σ, us, ρ, ks, pts, edg, nr, rt, sc, wf, ws, bsz, bop, bbg, ben, ptx, edx, nrx, rtx, scx, wfx, wsx, bsx, box, bbx, bex, rfl, hI⟩ := hR
  have hI0 := hI
  obtain ⟨hl, hta, hV0, hra, hqn, hu, hSu, hU, hk, hSk, hK, hNI, hbx⟩ := hI
  dsimp only at hl hta hV0 hra hqn hu hSu hU hk hSk hK hNI hbx
  have hE : EqR (rn, ra) (rn, rb) := ⟨rfl, hra⟩
  have hV : RV (rn, ra) := RV_congr hE hV0
  have hrn : rn ≤ 40 := hV.1
  obtain ⟨e1, e2, hnr0, hrt0, hsc0, hB, hO, hbv⟩ := hNI
  dsimp only at e1 e2 hnr0 hrt0 hsc0 hB hO hbv
  subst e1
  subst e2
  have hTV := stP hV0 (Nat.le_refl rn)
  have hpt := hTV.1.1
  have hnr : ∀ p, p < 9 → nr p < 512 := fun p hp => by rw [hnr0 p hp]; exact hTV.1.2.1.1 p hp
  obtain ⟨hn1, hq1⟩ := BL_BQ hV0 hB
  have hbz : ∀ i, i < bsz → bbg i < 2 ^ 31 ∧ ben i < 2 ^ 31 := fun i hi => hbv i (by omega)
  have hpp := popc_le (stR rb rn).1 9
  have hes := esum_le (stR rb rn).2.2.1 9
  have hee := hTV.2.1
  refine Rn.in rfl rfl rfl ?_
  show WP _ _ _ _ 0 [.ref 0, .long 0] [] (zW tl ta rn ra qn qa un σ us kn ρ ks ((stR rb rn).1) ((stR rb rn).2.1) nr rt sc wf ws bsz bop bbg ben ptx edx nrx rtx scx wfx wsx bsx box bbx bex suf)
  refine wq_aload_n rfl rfl ?_
  refine wq_getfield (v := .ref 27) rfl zo_0 rfl ?_
  refine wq_getfield (v := .ref 28) rfl zo_27 rfl ?_
  refine wq_virt (b := 28) (a := []) (rest := []) rfl rfl rfl rfl rfl zo_28 ?_
  rw [zv_ns]
  refine r_Net_points (by rfl) ?_
  rw [← zv_ns]
  show WP _ _ _ _ 10 [.ref 0, .long 0] [.int (nI ((stR rb rn).1))] (zW tl ta rn ra qn qa un σ us kn ρ ks ((stR rb rn).1) ((stR rb rn).2.1) nr rt sc wf ws bsz bop bbg ben ptx edx nrx rtx scx wfx wsx bsx box bbx bex suf)
  refine wn_if_ne rfl (by omega) (fun c10 => ?_) (fun c10 => ?_)
  · skip
    refine wq_aload_n rfl rfl ?_
    refine wq_getfield (v := .ref 27) rfl zo_0 rfl ?_
    refine wq_getfield (v := .ref 28) rfl zo_27 rfl ?_
    refine wq_virt (b := 28) (a := []) (rest := []) rfl rfl rfl rfl rfl zo_28 ?_
    rw [zv_ns]
    refine r_Net_edges (by rfl) ?_
    rw [← zv_ns]
    show WP _ _ _ _ 26 [.ref 0, .long 0] [.int (nI ((stR rb rn).2.1))] (zW tl ta rn ra qn qa un σ us kn ρ ks ((stR rb rn).1) ((stR rb rn).2.1) nr rt sc wf ws bsz bop bbg ben ptx edx nrx rtx scx wfx wsx bsx box bbx bex suf)
    refine wq_aload_n rfl rfl ?_
    refine wq_getfield (v := .ref 27) rfl zo_0 rfl ?_
    refine wq_getfield (v := .ref 28) rfl zo_27 rfl ?_
    refine wq_virt (b := 28) (a := []) (rest := [.int (nI ((stR rb rn).2.1))]) rfl rfl rfl rfl rfl zo_28 ?_
    rw [zv_ns]
    refine r_Net_points (by rfl) ?_
    rw [← zv_ns]
    show WP _ _ _ _ 36 [.ref 0, .long 0] [.int (nI ((stR rb rn).1)), .int (nI ((stR rb rn).2.1))] (zW tl ta rn ra qn qa un σ us kn ρ ks ((stR rb rn).1) ((stR rb rn).2.1) nr rt sc wf ws bsz bop bbg ben ptx edx nrx rtx scx wfx wsx bsx box bbx bex suf)
    refine wq_stat (a := [.int (nI ((stR rb rn).1))]) (rest := [.int (nI ((stR rb rn).2.1))]) rfl rfl rfl rfl rfl ?_
    refine r_bitCount (by omega) ?_
    show WP _ _ _ _ 39 [.ref 0, .long 0] [.int (nI (popc ((stR rb rn).1) 9)), .int (nI ((stR rb rn).2.1))] (zW tl ta rn ra qn qa un σ us kn ρ ks ((stR rb rn).1) ((stR rb rn).2.1) nr rt sc wf ws bsz bop bbg ben ptx edx nrx rtx scx wfx wsx bsx box bbx bex suf)
    refine wn_iadd rfl ?_
    refine wq_istore_n (lv' := [.ref 0, .int (nI (((stR rb rn).2.1) + (popc ((stR rb rn).1) 9)))]) rfl rfl rfl ?_
    refine wq_aload_n rfl rfl ?_
    refine wq_getfield (v := .ref 3) rfl zo_0 rfl ?_
    refine wq_virt (b := 3) (a := []) (rest := []) rfl rfl rfl rfl rfl zo_3 ?_
    refine r_Row_size (ra := fun _ => 0) zo_3 ?_
    show WP _ _ _ _ 48 [.ref 0, .int (nI (((stR rb rn).2.1) + (popc ((stR rb rn).1) 9)))] [.int (nI rn)] (zW tl ta rn ra qn qa un σ us kn ρ ks ((stR rb rn).1) ((stR rb rn).2.1) nr rt sc wf ws bsz bop bbg ben ptx edx nrx rtx scx wfx wsx bsx box bbx bex suf)
    refine wq_iload_n rfl rfl ?_
    refine wn_iadd rfl ?_
    refine wq_bipush (v := nI 40) rfl (by decide) ?_
    refine wn_ic_le rfl (by omega) (by omega) (fun c52 => ?_) (fun c52 => ?_)
    · skip
      refine wq_aload_n rfl rfl ?_
      refine wq_getfield (v := .ref 7) rfl zo_0 rfl ?_
      refine wq_aload_n rfl rfl ?_
      refine wq_getfield (v := .ref 3) rfl zo_0 rfl ?_
      refine wq_virt (b := 7) (a := [.ref 3]) (rest := []) rfl rfl rfl rfl rfl zo_7 ?_
      rw [zv_u]
      refine r_Shf_put (rn := rn) (ra := ra) (by rfl) (by omega) (by omega) hSu (by omega) (by omega) (fun _ _ _ => by rfl) (fun _ _ _ => by rfl) ?_
      intro σ1 us1 hSu1 hpu1 hpu2
      rw [← zv_u]
      show WP _ _ _ _ 69 [.ref 0, .int (nI (((stR rb rn).2.1) + (popc ((stR rb rn).1) 9)))] [] (zW tl ta rn ra qn qa (pz 6 un) σ1 us1 kn ρ ks ((stR rb rn).1) ((stR rb rn).2.1) nr rt sc wf ws bsz bop bbg ben ptx edx nrx rtx scx wfx wsx bsx box bbx bex suf)
      refine wq_aload_n rfl rfl ?_
      refine wq_virt (b := 0) (a := []) (rest := []) rfl rfl rfl rfl rfl zo_0 ?_
      have est : stR ra rn = stR rb rn := stE hE (Nat.le_refl rn)
      have hC0 : CE (stR rb rn) (rn + (stR rb rn).2.1) 0 1 (rn, ra) := by rw [← est]; exact CE_0 hV
      refine r_Z_clE (by omega) hC0 hnr0 hnr ?_
      intro rn2 ra2 hv2
      show WP _ _ _ _ 73 [.ref 0, .int (nI (((stR rb rn).2.1) + (popc ((stR rb rn).1) 9)))] [] (zW tl ta rn2 ra2 qn qa (pz 6 un) σ1 us1 kn ρ ks ((stR rb rn).1) ((stR rb rn).2.1) nr rt sc wf ws bsz bop bbg ben ptx edx nrx rtx scx wfx wsx bsx box bbx bex suf)
      refine wq_aload_n rfl rfl ?_
      refine wq_virt (b := 0) (a := []) (rest := []) rfl rfl rfl rfl rfl zo_0 ?_
      have hCP : CP (stR rb rn).1 (rn + (stR rb rn).2.1 + popc (stR rb rn).1 9) 0 (rn2, ra2) := by rw [hv2, ← est]; exact CE_CP hV (by rw [est]; omega)
      refine r_Z_clP (by omega) hpt hCP ?_
      intro rn3 ra3 hv3
      have hr3 : (rn3, ra3) = clR (rn, ra) := by rw [hv3, hv2, ← est]; rfl
      have hVc : RV (clR (rn, rb)) := clR_RV hV0 (by omega)
      have hE9 : EqR (rn3, ra3) (clR (rn, rb)) := by rw [hr3]; exact clR_E hE
      show WP _ _ _ _ 77 [.ref 0, .int (nI (((stR rb rn).2.1) + (popc ((stR rb rn).1) 9)))] [] (zW tl ta rn3 ra3 qn qa (pz 6 un) σ1 us1 kn ρ ks ((stR rb rn).1) ((stR rb rn).2.1) nr rt sc wf ws bsz bop bbg ben ptx edx nrx rtx scx wfx wsx bsx box bbx bex suf)
      refine wq_aload_n rfl rfl ?_
      refine wq_virt (b := 0) (a := []) (rest := []) rfl rfl rfl rfl rfl zo_0 ?_
      refine r_Z_tell (RV_congr hE9 hVc) hbv ?_
      intro pts1 edg1 nr1 rt1 sc1 wf1 ws1 bsz1 bop1 bbg1 ben1 hNI1
      show WP _ _ _ _ 81 [.ref 0, .int (nI (((stR rb rn).2.1) + (popc ((stR rb rn).1) 9)))] [] (zW tl ta rn3 ra3 qn qa (pz 6 un) σ1 us1 kn ρ ks pts1 edg1 nr1 rt1 sc1 wf1 ws1 bsz1 bop1 bbg1 ben1 ptx edx nrx rtx scx wfx wsx bsx box bbx bex suf)
      refine wq_iload_n rfl rfl ?_
      refine wq_iret rfl trivial ?_
      have er3 : rn3 = (clR (rn, rb)).1 := hE9.1
      subst er3
      exact fin_ (P := CIA suf) (A' := sR (nT (tl, tb, (rn, rb), un, ua, kn, ka)) (clR (rn, rb))) hQ (by unfold f_clear; (try dsimp only); rw [if_neg (show ¬ (sT (tl, tb, (rn, rb), un, ua, kn, ka)).1 = 0 from c10), if_neg (show ¬ 40 < rn + (maT (tl, tb, (rn, rb), un, ua, kn, ka)) by show ¬ 40 < rn + ((stR rb rn).2.1 + popc (stR rb rn).1 9); omega)]; rfl) ⟨_, _, _, _, _, _, _, _, _, _, _, _, _, _, _, _, _, _, _, _, _, _, _, _, _, _, _, _, _, _, rfl, (CI_put hI0 hSu1 hpu1 hpu2 hVc (fun i hi => hE9.2 i hi) hqn (NI_congr hE9 hNI1) hbx)⟩
    · skip
      refine wq_bipush (v := (-3)) rfl (by decide) ?_
      refine wq_iret rfl trivial ?_
      exact fin_ (P := CIA suf) (A' := (tl, tb, (rn, rb), un, ua, kn, ka)) hQ (by unfold f_clear; (try dsimp only); rw [if_neg (show ¬ (sT (tl, tb, (rn, rb), un, ua, kn, ka)).1 = 0 from c10), if_pos (show 40 < rn + (maT (tl, tb, (rn, rb), un, ua, kn, ka)) by show 40 < rn + ((stR rb rn).2.1 + popc (stR rb rn).1 9); omega)]) ⟨_, _, _, _, _, _, _, _, _, _, _, _, _, _, _, _, _, _, _, _, _, _, _, _, _, _, _, _, _, _, rfl, hI0⟩
  · skip
    refine wq_bipush (v := (-2)) rfl (by decide) ?_
    refine wq_iret rfl trivial ?_
    exact fin_ (P := CIA suf) (A' := (tl, tb, (rn, rb), un, ua, kn, ka)) hQ (by unfold f_clear; (try dsimp only); rw [if_pos (show (sT (tl, tb, (rn, rb), un, ua, kn, ka)).1 = 0 from c10)]) ⟨_, _, _, _, _, _, _, _, _, _, _, _, _, _, _, _, _, _, _, _, _, _, _, _, _, _, _, _, _, _, rfl, hI0⟩
