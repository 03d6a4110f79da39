/-! the class: its calls, first half -/
theorem sw_def {pc : Nat} {d lo hi : Int} {offs : Array Int} {a : Int32} (h : a.toInt < lo ∨ hi < a.toInt) : m_sw pc d lo hi offs a = ((pc : Int) + d).toNat := if_pos h
theorem r_Z_isPtN {d : Nat} {h : mH} {Q : Option Value → mH → Prop} {p : Nat} (hp : p < 2 ^ 31) (kt : p < 9 → Q (some (.int (nI 1))) h) (kf : ¬ p < 9 → Q (some (.int (nI 0))) h) : Rn mprog (d + 1) n_Z_isPoint [.int (nI p)] h Q :=
  r_Z_isPoint (fun c => kt ((nI_ltI hp (by decide)).mp c.2)) (fun c => kf (fun z => c ⟨nI_pos' hp, (nI_ltI hp (by decide)).mpr z⟩))
theorem r_Z_isKindN {d : Nat} {h : mH} {Q : Option Value → mH → Prop} {p : Nat} (hp : p < 2 ^ 31) (kt : p < 4 → Q (some (.int (nI 1))) h) (kf : ¬ p < 4 → Q (some (.int (nI 0))) h) : Rn mprog (d + 1) n_Z_isKind [.int (nI p)] h Q :=
  r_Z_isKind (fun c => kt (by have := (nI_leI (b := 3) hp (by decide)).mp c.2; omega)) (fun c => kf (fun z => c ⟨nI_pos' hp, (nI_leI (b := 3) hp (by decide)).mpr (by omega)⟩))
/-- what the class holds -/
def CI (A : AS) (ta ra : Nat → Nat) (qn : Nat) (σ : Nat → Nat) (us : Nat → Rw) (ρ : Nat → Nat) (ks : Nat → Rw) (pts edg : Nat) (nr rt : Nat → Nat) (sc : Nat → Nat → Nat) (bsz bop : Nat) (bbg ben bbx bex : Nat → Nat) : Prop :=
  A.1 ≤ 200 ∧ (∀ i, i < A.1 → ta i = A.2.1 i ∧ A.2.1 i < 127) ∧ RV A.2.2.1 ∧ (∀ i, i < A.2.2.1.1 → ra i = A.2.2.1.2 i) ∧ qn ≤ 40 ∧
  A.2.2.2.1 ≤ 6 ∧ SI 6 σ ∧ (∀ j, j < A.2.2.2.1 → RV (A.2.2.2.2.1 j) ∧ EqR (us (σ j)) (A.2.2.2.2.1 j)) ∧
  A.2.2.2.2.2.1 ≤ 2 ∧ SI 2 ρ ∧ (∀ j, j < A.2.2.2.2.2.1 → RV (A.2.2.2.2.2.2 j) ∧ EqR (ks (ρ j)) (A.2.2.2.2.2.2 j)) ∧
  NI A.2.2.1 pts edg nr rt sc bsz bop bbg ben ∧ ∀ i, i < 40 → bbx i < 2 ^ 31 ∧ bex i < 2 ^ 31
def CIA (suf : mH) (A : AS) (h : mH) : Prop :=
  ∃ ta ra qn qa σ us ρ ks pts edg nr rt sc wf ws bsz bop bbg ben ptx edx nrx rtx scx wfx wsx bsx box bbx bex, h = zW A.1 ta A.2.2.1.1 ra qn qa A.2.2.2.1 σ us A.2.2.2.2.2.1 ρ ks pts edg nr rt sc wf ws bsz bop bbg ben ptx edx nrx rtx scx wfx wsx bsx box bbx bex suf ∧ CI A ta ra qn σ us ρ ks pts edg nr rt sc bsz bop bbg ben bbx bex
theorem CI_x {A : AS} {ta ra : Nat → Nat} {qn : Nat} {σ : Nat → Nat} {us : Nat → Rw} {ρ : Nat → Nat} {ks : Nat → Rw} {pts edg : Nat} {nr rt : Nat → Nat} {sc : Nat → Nat → Nat} {bsz bop : Nat} {bbg ben bbx bex : Nat → Nat} (h : CI A ta ra qn σ us ρ ks pts edg nr rt sc bsz bop bbg ben bbx bex) {qn' : Nat} {bbx' bex' : Nat → Nat} (h1 : qn' ≤ 40) (h2 : ∀ i, i < 40 → bbx' i < 2 ^ 31 ∧ bex' i < 2 ^ 31) : CI A ta ra qn' σ us ρ ks pts edg nr rt sc bsz bop bbg ben bbx' bex' := ⟨h.1, h.2.1, h.2.2.1, h.2.2.2.1, h1, h.2.2.2.2.2.1, h.2.2.2.2.2.2.1, h.2.2.2.2.2.2.2.1, h.2.2.2.2.2.2.2.2.1, h.2.2.2.2.2.2.2.2.2.1, h.2.2.2.2.2.2.2.2.2.2.1, h.2.2.2.2.2.2.2.2.2.2.2.1, h2⟩
theorem CI_put {A : AS} {ta ra : Nat → Nat} {qn : Nat} {σ : Nat → Nat} {us : Nat → Rw} {ρ : Nat → Nat} {ks : Nat → Rw} {pts edg : Nat} {nr rt : Nat → Nat} {sc : Nat → Nat → Nat} {bsz bop : Nat} {bbg ben bbx bex : Nat → Nat} (h : CI A ta ra qn σ us ρ ks pts edg nr rt sc bsz bop bbg ben bbx bex) {σ1 : Nat → Nat} {us1 : Nat → Rw} (hS1 : SI 6 σ1) (hp1 : ∀ j, j + 1 < pz 6 A.2.2.2.1 → us1 (σ1 j) = us (σ (if A.2.2.2.1 = 6 then j + 1 else j))) (hp2 : EqR (us1 (σ1 (pz 6 A.2.2.2.1 - 1))) (A.2.2.1.1, ra)) {r : Rw} (hV : RV r) {ra' : Nat → Nat} (hra : ∀ i, i < r.1 → ra' i = r.2 i) {qn' : Nat} (hq : qn' ≤ 40) {pts' edg' bsz' bop' : Nat} {nr' rt' bbg' ben' : Nat → Nat} {sc' : Nat → Nat → Nat} (hN : NI r pts' edg' nr' rt' sc' bsz' bop' bbg' ben') {bbx' bex' : Nat → Nat} (hx : ∀ i, i < 40 → bbx' i < 2 ^ 31 ∧ bex' i < 2 ^ 31) : CI (sR (nT A) r) ta ra' qn' σ1 us1 ρ ks pts' edg' nr' rt' sc' bsz' bop' bbg' ben' bbx' bex' := by
  obtain ⟨h1, h2, h3, h4, h5, h6, h7, h8, h9, h10, h11, h12, h13⟩ := h
  refine ⟨h1, h2, hV, hra, hq, ?_, hS1, fun j hj => ?_, h9, h10, h11, hN, hx⟩
  · show unN _ ≤ 6
    unfold unN
    split <;> omega
  · have hj : j < unN A.2.2.2.1 := hj
    show RV (uaN A.2.2.2.1 A.2.2.2.2.1 A.2.2.1 j) ∧ EqR (us1 (σ1 j)) (uaN A.2.2.2.1 A.2.2.2.2.1 A.2.2.1 j)
    unfold unN at hj
    unfold pz at hp1 hp2
    unfold uaN
    by_cases e : A.2.2.2.1 = 6
    · rw [if_pos e] at hj hp1 hp2
      rw [if_pos e]
      by_cases q : j < 5
      · rw [if_pos q, hp1 j (by omega), if_pos e]
        exact h8 (j + 1) (by omega)
      · rw [if_neg q]
        have ej : j = 6 - 1 := by omega
        rw [ej]
        exact ⟨h3, EqR_tr hp2 ⟨rfl, h4⟩⟩
    · rw [if_neg e] at hj hp1 hp2
      rw [if_neg e]
      by_cases q : j < A.2.2.2.1
      · rw [if_pos q, hp1 j (by omega), if_neg e]
        exact h8 j q
      · rw [if_neg q]
        have ej : j = A.2.2.2.1 + 1 - 1 := by omega
        rw [ej]
        exact ⟨h3, EqR_tr hp2 ⟨rfl, h4⟩⟩
theorem CI_wr {A : AS} {ta ra : Nat → Nat} {qn : Nat} {σ : Nat → Nat} {us : Nat → Rw} {ρ : Nat → Nat} {ks : Nat → Rw} {pts edg : Nat} {nr rt : Nat → Nat} {sc : Nat → Nat → Nat} {bsz bop : Nat} {bbg ben bbx bex : Nat → Nat} {x : Nat} (h : CI A ta ra qn σ us ρ ks pts edg nr rt sc bsz bop bbg ben bbx bex) (hl : A.1 < 200) (hx : x < 127) : CI (A.1 + 1, uN' A.2.1 A.1 x, A.2.2) (uN' ta A.1 x) ra qn σ us ρ ks pts edg nr rt sc bsz bop bbg ben bbx bex := by
  refine ⟨hl, fun i hi => ?_, h.2.2⟩
  have hi : i < A.1 + 1 := hi
  show uN' ta A.1 x i = uN' A.2.1 A.1 x i ∧ uN' A.2.1 A.1 x i < 127
  by_cases e : i = A.1
  · rw [e, uN_s, uN_s]; exact ⟨rfl, hx⟩
  · rw [uN_n e, uN_n e]; exact h.2.1 i (by omega)
theorem CI_wipe {A : AS} {ta ra : Nat → Nat} {qn : Nat} {σ : Nat → Nat} {us : Nat → Rw} {ρ : Nat → Nat} {ks : Nat → Rw} {pts edg : Nat} {nr rt : Nat → Nat} {sc : Nat → Nat → Nat} {bsz bop : Nat} {bbg ben bbx bex : Nat → Nat} (h : CI A ta ra qn σ us ρ ks pts edg nr rt sc bsz bop bbg ben bbx bex) : CI (0, A.2) ta ra qn σ us ρ ks pts edg nr rt sc bsz bop bbg ben bbx bex := ⟨Nat.zero_le _, fun i hi => absurd hi (Nat.not_lt_zero i), h.2.2⟩
theorem C_write {d : Nat} {suf : mH} {A : AS} {h : mH} {Q : Option Value → mH → Prop} (hR : CIA suf A h) {x : Nat} (hx0 : x < 2 ^ 31)  (hQ : ∀ h', CIA suf (f_write A x).2 h' → Q (some (.int (f_write A x).1)) h') : Rn mprog (d + 9) n_Z_write [.ref 0, .int (nI x)] h Q := by
  obtain ⟨tl, tb, ⟨rn, rb⟩, un, ua, kn, ka⟩ := A
  obtain ⟨ta, ra, qn, qa, σ, us, ρ, ks, pts, edg, nr, rt, sc, wf, ws, bsz, bop, bbg, ben, ptx, edx, nrx, rtx, scx, wfx, wsx, bsx, box, bbx, bex, rfl, hI⟩ := hR
  have hI0 := hI
  obtain ⟨hl, hta, hV0, hra, hqn, hu, hSu, hU, hk, hSk, hK, hNI, hbx⟩ := hI
  dsimp only at hl hta hV0 hra hqn hu hSu hU hk hSk hK hNI hbx
  have hE : EqR (rn, ra) (rn, rb) := ⟨rfl, hra⟩
  have hV : RV (rn, ra) := RV_congr hE hV0
  have hrn : rn ≤ 40 := hV.1
  obtain ⟨e1, e2, hnr0, hrt0, hsc0, hB, hO, hbv⟩ := hNI
  dsimp only at e1 e2 hnr0 hrt0 hsc0 hB hO hbv
  subst e1
  subst e2
  have hTV := stP hV0 (Nat.le_refl rn)
  have hpt := hTV.1.1
  have hnr : ∀ p, p < 9 → nr p < 512 := fun p hp => by rw [hnr0 p hp]; exact hTV.1.2.1.1 p hp
  obtain ⟨hn1, hq1⟩ := BL_BQ hV0 hB
  have hbz : ∀ i, i < bsz → bbg i < 2 ^ 31 ∧ ben i < 2 ^ 31 := fun i hi => hbv i (by omega)
  refine Rn.in rfl rfl rfl ?_
  show WP _ _ _ _ 0 [.ref 0, .int (nI x)] [] (zW tl ta rn ra qn qa un σ us kn ρ ks ((stR rb rn).1) ((stR rb rn).2.1) nr rt sc wf ws bsz bop bbg ben ptx edx nrx rtx scx wfx wsx bsx box bbx bex suf)
  refine wq_iload_n rfl rfl ?_
  refine wq_bipush (v := nI 32) rfl (by decide) ?_
  refine wn_ic_lt rfl (by omega) (by omega) (fun c3 => ?_) (fun c3 => ?_)
  · skip
    refine wq_iconst (v := (-1)) rfl (by decide) ?_
    refine wq_iret rfl trivial ?_
    exact fin_ (P := CIA suf) (A' := (tl, tb, (rn, rb), un, ua, kn, ka)) hQ (by unfold f_write; (try dsimp only); (repeat first | rw [if_pos (by omega)] | rw [if_neg (by omega)]); try rfl) ⟨_, _, _, _, _, _, _, _, _, _, _, _, _, _, _, _, _, _, _, _, _, _, _, _, _, _, _, _, _, _, rfl, hI0⟩
  · skip
    refine wq_iload_n rfl rfl ?_
    refine wq_bipush (v := nI 126) rfl (by decide) ?_
    refine wn_ic_le rfl (by omega) (by omega) (fun c9 => ?_) (fun c9 => ?_)
    · skip
      refine wq_aload_n rfl rfl ?_
      refine wq_getfield (v := .ref 1) rfl zo_0 rfl ?_
      refine wq_virt (b := 1) (a := []) (rest := []) rfl rfl rfl rfl rfl zo_1 ?_
      rw [zv_t]
      refine r_Txt_length (by rfl) ?_
      rw [← zv_t]
      show WP _ _ _ _ 21 [.ref 0, .int (nI x)] [.int (nI tl)] (zW tl ta rn ra qn qa un σ us kn ρ ks ((stR rb rn).1) ((stR rb rn).2.1) nr rt sc wf ws bsz bop bbg ben ptx edx nrx rtx scx wfx wsx bsx box bbx bex suf)
      refine wq_sipush (v := nI 200) rfl (by decide) ?_
      refine wn_ic_lt rfl (by omega) (by omega) (fun c24 => ?_) (fun c24 => ?_)
      · skip
        refine wq_aload_n rfl rfl ?_
        refine wq_getfield (v := .ref 1) rfl zo_0 rfl ?_
        refine wq_iload_n rfl rfl ?_
        refine wq_virt (b := 1) (a := [.int (nI x)]) (rest := []) rfl rfl rfl rfl rfl zo_1 ?_
        rw [zv_t]
        refine r_Txt_add (by rfl) (by omega) ?_
        rw [← zv_t]
        show WP _ _ _ _ 38 [.ref 0, .int (nI x)] [] (zW (tl + 1) (uN' ta tl x) rn ra qn qa un σ us kn ρ ks ((stR rb rn).1) ((stR rb rn).2.1) nr rt sc wf ws bsz bop bbg ben ptx edx nrx rtx scx wfx wsx bsx box bbx bex suf)
        refine wq_aload_n rfl rfl ?_
        refine wq_getfield (v := .ref 1) rfl zo_0 rfl ?_
        refine wq_virt (b := 1) (a := []) (rest := []) rfl rfl rfl rfl rfl zo_1 ?_
        rw [zv_t]
        refine r_Txt_length (by rfl) ?_
        rw [← zv_t]
        show WP _ _ _ _ 45 [.ref 0, .int (nI x)] [.int (nI (tl + 1))] (zW (tl + 1) (uN' ta tl x) rn ra qn qa un σ us kn ρ ks ((stR rb rn).1) ((stR rb rn).2.1) nr rt sc wf ws bsz bop bbg ben ptx edx nrx rtx scx wfx wsx bsx box bbx bex suf)
        refine wq_iret rfl trivial ?_
        exact fin_ (P := CIA suf) (A' := (tl + 1, uN' tb tl x, (rn, rb), un, ua, kn, ka)) hQ (by unfold f_write; (try dsimp only); (repeat first | rw [if_pos (by omega)] | rw [if_neg (by omega)]); try rfl) ⟨_, _, _, _, _, _, _, _, _, _, _, _, _, _, _, _, _, _, _, _, _, _, _, _, _, _, _, _, _, _, rfl, (CI_wr hI0 (by show tl < 200; omega) (by omega))⟩
      · skip
        refine wq_bipush (v := (-3)) rfl (by decide) ?_
        refine wq_iret rfl trivial ?_
        exact fin_ (P := CIA suf) (A' := (tl, tb, (rn, rb), un, ua, kn, ka)) hQ (by unfold f_write; (try dsimp only); (repeat first | rw [if_pos (by omega)] | rw [if_neg (by omega)]); try rfl) ⟨_, _, _, _, _, _, _, _, _, _, _, _, _, _, _, _, _, _, _, _, _, _, _, _, _, _, _, _, _, _, rfl, hI0⟩
    · skip
      refine wq_iconst (v := (-1)) rfl (by decide) ?_
      refine wq_iret rfl trivial ?_
      exact fin_ (P := CIA suf) (A' := (tl, tb, (rn, rb), un, ua, kn, ka)) hQ (by unfold f_write; (try dsimp only); (repeat first | rw [if_pos (by omega)] | rw [if_neg (by omega)]); try rfl) ⟨_, _, _, _, _, _, _, _, _, _, _, _, _, _, _, _, _, _, _, _, _, _, _, _, _, _, _, _, _, _, rfl, hI0⟩
theorem C_write_neg {d : Nat} {suf : mH} {A : AS} {h : mH} {Q : Option Value → mH → Prop} (hR : CIA suf A h) {v1 : Int32} (hneg : v1 < 0) (hQ : ∀ h', CIA suf A h' → Q (some (.int (-1))) h') : Rn mprog (d + 9) n_Z_write [.ref 0, .int v1] h Q := by
  obtain ⟨tl, tb, ⟨rn, rb⟩, un, ua, kn, ka⟩ := A
  obtain ⟨ta, ra, qn, qa, σ, us, ρ, ks, pts, edg, nr, rt, sc, wf, ws, bsz, bop, bbg, ben, ptx, edx, nrx, rtx, scx, wfx, wsx, bsx, box, bbx, bex, rfl, hI⟩ := hR
  have hI0 := hI
  obtain ⟨hl, hta, hV0, hra, hqn, hu, hSu, hU, hk, hSk, hK, hNI, hbx⟩ := hI
  dsimp only at hl hta hV0 hra hqn hu hSu hU hk hSk hK hNI hbx
  have hE : EqR (rn, ra) (rn, rb) := ⟨rfl, hra⟩
  have hV : RV (rn, ra) := RV_congr hE hV0
  have hrn : rn ≤ 40 := hV.1
  obtain ⟨e1, e2, hnr0, hrt0, hsc0, hB, hO, hbv⟩ := hNI
  dsimp only at e1 e2 hnr0 hrt0 hsc0 hB hO hbv
  subst e1
  subst e2
  have hTV := stP hV0 (Nat.le_refl rn)
  have hpt := hTV.1.1
  have hnr : ∀ p, p < 9 → nr p < 512 := fun p hp => by rw [hnr0 p hp]; exact hTV.1.2.1.1 p hp
  obtain ⟨hn1, hq1⟩ := BL_BQ hV0 hB
  have hbz : ∀ i, i < bsz → bbg i < 2 ^ 31 ∧ ben i < 2 ^ 31 := fun i hi => hbv i (by omega)
  refine Rn.in rfl rfl rfl ?_
  show WP _ _ _ _ 0 [.ref 0, .int v1] [] (zW tl ta rn ra qn qa un σ us kn ρ ks ((stR rb rn).1) ((stR rb rn).2.1) nr rt sc wf ws bsz bop bbg ben ptx edx nrx rtx scx wfx wsx bsx box bbx bex suf)
  refine wq_iload_n rfl rfl ?_
  refine wq_bipush (v := nI 32) rfl (by decide) ?_
  refine wq_ic_lt rfl (fun c3 => ?_) (fun c3 => absurd c3 (fun z => z (nI_neg hneg (by decide))))
  refine wq_iconst (v := (-1)) rfl (by decide) ?_
  refine wq_iret rfl trivial ?_
  exact hQ _ ⟨_, _, _, _, _, _, _, _, _, _, _, _, _, _, _, _, _, _, _, _, _, _, _, _, _, _, _, _, _, _, rfl, hI0⟩
theorem C_wipe {d : Nat} {suf : mH} {A : AS} {h : mH} {Q : Option Value → mH → Prop} (hR : CIA suf A h)   (hQ : ∀ h', CIA suf (f_wipe A ).2 h' → Q (some (.int (f_wipe A ).1)) h') : Rn mprog (d + 9) n_Z_wipe [.ref 0] h Q := by
  obtain ⟨tl, tb, ⟨rn, rb⟩, un, ua, kn, ka⟩ := A
  obtain ⟨ta, ra, qn, qa, σ, us, ρ, ks, pts, edg, nr, rt, sc, wf, ws, bsz, bop, bbg, ben, ptx, edx, nrx, rtx, scx, wfx, wsx, bsx, box, bbx, bex, rfl, hI⟩ := hR
  have hI0 := hI
  obtain ⟨hl, hta, hV0, hra, hqn, hu, hSu, hU, hk, hSk, hK, hNI, hbx⟩ := hI
  dsimp only at hl hta hV0 hra hqn hu hSu hU hk hSk hK hNI hbx
  have hE : EqR (rn, ra) (rn, rb) := ⟨rfl, hra⟩
  have hV : RV (rn, ra) := RV_congr hE hV0
  have hrn : rn ≤ 40 := hV.1
  obtain ⟨e1, e2, hnr0, hrt0, hsc0, hB, hO, hbv⟩ := hNI
  dsimp only at e1 e2 hnr0 hrt0 hsc0 hB hO hbv
  subst e1
  subst e2
  have hTV := stP hV0 (Nat.le_refl rn)
  have hpt := hTV.1.1
  have hnr : ∀ p, p < 9 → nr p < 512 := fun p hp => by rw [hnr0 p hp]; exact hTV.1.2.1.1 p hp
  obtain ⟨hn1, hq1⟩ := BL_BQ hV0 hB
  have hbz : ∀ i, i < bsz → bbg i < 2 ^ 31 ∧ ben i < 2 ^ 31 := fun i hi => hbv i (by omega)
  refine Rn.in rfl rfl rfl ?_
  show WP _ _ _ _ 0 [.ref 0, .long 0] [] (zW tl ta rn ra qn qa un σ us kn ρ ks ((stR rb rn).1) ((stR rb rn).2.1) nr rt sc wf ws bsz bop bbg ben ptx edx nrx rtx scx wfx wsx bsx box bbx bex suf)
  refine wq_aload_n rfl rfl ?_
  refine wq_getfield (v := .ref 1) rfl zo_0 rfl ?_
  refine wq_virt (b := 1) (a := []) (rest := []) rfl rfl rfl rfl rfl zo_1 ?_
  rw [zv_t]
  refine r_Txt_length (by rfl) ?_
  rw [← zv_t]
  show WP _ _ _ _ 7 [.ref 0, .long 0] [.int (nI tl)] (zW tl ta rn ra qn qa un σ us kn ρ ks ((stR rb rn).1) ((stR rb rn).2.1) nr rt sc wf ws bsz bop bbg ben ptx edx nrx rtx scx wfx wsx bsx box bbx bex suf)
  refine wq_istore_n (lv' := [.ref 0, .int (nI tl)]) rfl rfl rfl ?_
  refine wq_aload_n rfl rfl ?_
  refine wq_getfield (v := .ref 1) rfl zo_0 rfl ?_
  refine wq_virt (b := 1) (a := []) (rest := []) rfl rfl rfl rfl rfl zo_1 ?_
  rw [zv_t]
  refine r_Txt_empty (by rfl) ?_
  rw [← zv_t]
  show WP _ _ _ _ 15 [.ref 0, .int (nI tl)] [] (zW 0 ta rn ra qn qa un σ us kn ρ ks ((stR rb rn).1) ((stR rb rn).2.1) nr rt sc wf ws bsz bop bbg ben ptx edx nrx rtx scx wfx wsx bsx box bbx bex suf)
  refine wq_iload_n rfl rfl ?_
  refine wq_iret rfl trivial ?_
  exact fin_ (P := CIA suf) (A' := (0, tb, (rn, rb), un, ua, kn, ka)) hQ (by unfold f_wipe; (try dsimp only); (repeat first | rw [if_pos (by omega)] | rw [if_neg (by omega)]); try rfl) ⟨_, _, _, _, _, _, _, _, _, _, _, _, _, _, _, _, _, _, _, _, _, _, _, _, _, _, _, _, _, _, rfl, (CI_wipe hI0)⟩
theorem rdZ {tl : Nat} {ta tb qa : Nat → Nat} {r : Rw} {un kn : Nat} {ua ka : Nat → Rw} (h : ∀ i, i < tl → ta i = tb i) : (rdg tl ta 41 0 0 qa).1 = (rdA (tl, tb, r, un, ua, kn, ka)).1 ∧ EqR (rdg tl ta 41 0 0 qa).2 (rdA (tl, tb, r, un, ua, kn, ka)).2 := by
  have q := rdg_congr (tl := tl) (ta := tb) 41 0 0 qa (fun _ => 0) (fun i hi => absurd hi (Nat.not_lt_zero i))
  rw [rdg_text h]
  exact ⟨q.1, q.2.1, q.2.2⟩
theorem C_fault {d : Nat} {suf : mH} {A : AS} {h : mH} {Q : Option Value → mH → Prop} (hR : CIA suf A h)   (hQ : ∀ h', CIA suf (f_fault A ).2 h' → Q (some (.int (f_fault A ).1)) h') : Rn mprog (d + 9) n_Z_fault [.ref 0] h Q := by
  obtain ⟨tl, tb, ⟨rn, rb⟩, un, ua, kn, ka⟩ := A
  obtain ⟨ta, ra, qn, qa, σ, us, ρ, ks, pts, edg, nr, rt, sc, wf, ws, bsz, bop, bbg, ben, ptx, edx, nrx, rtx, scx, wfx, wsx, bsx, box, bbx, bex, rfl, hI⟩ := hR
  have hI0 := hI
  obtain ⟨hl, hta, hV0, hra, hqn, hu, hSu, hU, hk, hSk, hK, hNI, hbx⟩ := hI
  dsimp only at hl hta hV0 hra hqn hu hSu hU hk hSk hK hNI hbx
  have hE : EqR (rn, ra) (rn, rb) := ⟨rfl, hra⟩
  have hV : RV (rn, ra) := RV_congr hE hV0
  have hrn : rn ≤ 40 := hV.1
  obtain ⟨e1, e2, hnr0, hrt0, hsc0, hB, hO, hbv⟩ := hNI
  dsimp only at e1 e2 hnr0 hrt0 hsc0 hB hO hbv
  subst e1
  subst e2
  have hTV := stP hV0 (Nat.le_refl rn)
  have hpt := hTV.1.1
  have hnr : ∀ p, p < 9 → nr p < 512 := fun p hp => by rw [hnr0 p hp]; exact hTV.1.2.1.1 p hp
  obtain ⟨hn1, hq1⟩ := BL_BQ hV0 hB
  have hbz : ∀ i, i < bsz → bbg i < 2 ^ 31 ∧ ben i < 2 ^ 31 := fun i hi => hbv i (by omega)
  refine Rn.in rfl rfl rfl ?_
  show WP _ _ _ _ 0 [.ref 0] [] (zW tl ta rn ra qn qa un σ us kn ρ ks ((stR rb rn).1) ((stR rb rn).2.1) nr rt sc wf ws bsz bop bbg ben ptx edx nrx rtx scx wfx wsx bsx box bbx bex suf)
  refine wq_aload_n rfl rfl ?_
  refine wq_virt (b := 0) (a := []) (rest := []) rfl rfl rfl rfl rfl zo_0 ?_
  obtain ⟨hz1, hz2⟩ := rdZ (qa := qa) (r := (rn, rb)) (un := un) (kn := kn) (ua := ua) (ka := ka) (fun i hi => (hta i hi).1)
  have hzV := rdA_RV (tl, tb, (rn, rb), un, ua, kn, ka)
  have hz4 : (rdg tl ta 41 0 0 qa).2.1 ≤ 40 := by rw [hz2.1]; exact hzV.1
  refine r_Z_read hl (fun i hi => by rw [(hta i hi).1]; exact (hta i hi).2) ?_
  intro ptx' edx' nrx'
  show WP _ _ _ _ 4 [.ref 0] [.int (opI (rdg tl ta 41 0 0 qa).1)] (zW tl ta rn ra ((rdg tl ta 41 0 0 qa).2.1) ((rdg tl ta 41 0 0 qa).2.2) un σ us kn ρ ks ((stR rb rn).1) ((stR rb rn).2.1) nr rt sc wf ws bsz bop bbg ben ptx' edx' nrx' rtx scx wfx wsx bsx box bbx bex suf)
  refine wq_iret rfl trivial ?_
  rw [hz1]
  exact fin_ (P := CIA suf) (A' := (tl, tb, (rn, rb), un, ua, kn, ka)) hQ (by unfold f_fault; (try dsimp only); (repeat first | rw [if_pos (by omega)] | rw [if_neg (by omega)]); try rfl) ⟨_, _, _, _, _, _, _, _, _, _, _, _, _, _, _, _, _, _, _, _, _, _, _, _, _, _, _, _, _, _, rfl, (CI_x hI0 hz4 hbx)⟩
theorem C_lay {d : Nat} {suf : mH} {A : AS} {h : mH} {Q : Option Value → mH → Prop} (hR : CIA suf A h)   (hQ : ∀ h', CIA suf (f_lay A ).2 h' → Q (some (.int (f_lay A ).1)) h') : Rn mprog (d + 9) n_Z_lay [.ref 0] h Q := by
  obtain ⟨tl, tb, ⟨rn, rb⟩, un, ua, kn, ka⟩ := A
  obtain ⟨ta, ra, qn, qa, σ, us, ρ, ks, pts, edg, nr, rt, sc, wf, ws, bsz, bop, bbg, ben, ptx, edx, nrx, rtx, scx, wfx, wsx, bsx, box, bbx, bex, rfl, hI⟩ := hR
  have hI0 := hI
  obtain ⟨hl, hta, hV0, hra, hqn, hu, hSu, hU, hk, hSk, hK, hNI, hbx⟩ := hI
  dsimp only at hl hta hV0 hra hqn hu hSu hU hk hSk hK hNI hbx
  have hE : EqR (rn, ra) (rn, rb) := ⟨rfl, hra⟩
  have hV : RV (rn, ra) := RV_congr hE hV0
  have hrn : rn ≤ 40 := hV.1
  obtain ⟨e1, e2, hnr0, hrt0, hsc0, hB, hO, hbv⟩ := hNI
  dsimp only at e1 e2 hnr0 hrt0 hsc0 hB hO hbv
  subst e1
  subst e2
  have hTV := stP hV0 (Nat.le_refl rn)
  have hpt := hTV.1.1
  have hnr : ∀ p, p < 9 → nr p < 512 := fun p hp => by rw [hnr0 p hp]; exact hTV.1.2.1.1 p hp
  obtain ⟨hn1, hq1⟩ := BL_BQ hV0 hB
  have hbz : ∀ i, i < bsz → bbg i < 2 ^ 31 ∧ ben i < 2 ^ 31 := fun i hi => hbv i (by omega)
  refine Rn.in rfl rfl rfl ?_
  show WP _ _ _ _ 0 [.ref 0] [] (zW tl ta rn ra qn qa un σ us kn ρ ks ((stR rb rn).1) ((stR rb rn).2.1) nr rt sc wf ws bsz bop bbg ben ptx edx nrx rtx scx wfx wsx bsx box bbx bex suf)
  refine wq_aload_n rfl rfl ?_
  refine wq_virt (b := 0) (a := []) (rest := []) rfl rfl rfl rfl rfl zo_0 ?_
  obtain ⟨hz1, hz2⟩ := rdZ (qa := qa) (r := (rn, rb)) (un := un) (kn := kn) (ua := ua) (ka := ka) (fun i hi => (hta i hi).1)
  have hzV := rdA_RV (tl, tb, (rn, rb), un, ua, kn, ka)
  have hz4 : (rdg tl ta 41 0 0 qa).2.1 ≤ 40 := by rw [hz2.1]; exact hzV.1
  refine r_Z_read hl (fun i hi => by rw [(hta i hi).1]; exact (hta i hi).2) ?_
  intro ptx' edx' nrx'
  show WP _ _ _ _ 4 [.ref 0] [.int (opI (rdg tl ta 41 0 0 qa).1)] (zW tl ta rn ra ((rdg tl ta 41 0 0 qa).2.1) ((rdg tl ta 41 0 0 qa).2.2) un σ us kn ρ ks ((stR rb rn).1) ((stR rb rn).2.1) nr rt sc wf ws bsz bop bbg ben ptx' edx' nrx' rtx scx wfx wsx bsx box bbx bex suf)
  refine wq_bipush (v := (-4)) rfl (by decide) ?_
  refine wq_ic_eq rfl (fun c6 => ?_) (fun c6 => ?_)
  · skip
    have hno : (rdA (tl, tb, (rn, rb), un, ua, kn, ka)).1 = none := by
      rw [hz1] at c6
      cases hz : (rdA (tl, tb, (rn, rb), un, ua, kn, ka)).1 with
      | none => rfl
      | some p => rw [hz] at c6; exact absurd c6 (nI_n4 (rdA_lt hz hl))
    refine wq_aload_n rfl rfl ?_
    refine wq_virt (b := 0) (a := []) (rest := []) rfl rfl rfl rfl rfl zo_0 ?_
    refine r_Z_layTrial (RV_congr hz2 hzV) hbv ?_
    intro pts1 edg1 nr1 rt1 sc1 wf1 ws1 bsz1 bop1 bbg1 ben1 hNI1
    show WP _ _ _ _ 16 [.ref 0] [] (zW tl ta ((rdg tl ta 41 0 0 qa).2.1) (cpA (rdg tl ta 41 0 0 qa).2.2 ra (rdg tl ta 41 0 0 qa).2.1) ((rdg tl ta 41 0 0 qa).2.1) ((rdg tl ta 41 0 0 qa).2.2) 0 σ us kn ρ ks pts1 edg1 nr1 rt1 sc1 wf1 ws1 bsz1 bop1 bbg1 ben1 ptx' edx' nrx' rtx scx wfx wsx bsx box bbx bex suf)
    refine wq_aload_n rfl rfl ?_
    refine wq_getfield (v := .ref 3) rfl zo_0 rfl ?_
    refine wq_virt (b := 3) (a := []) (rest := []) rfl rfl rfl rfl rfl zo_3 ?_
    refine r_Row_size (ra := fun _ => 0) zo_3 ?_
    show WP _ _ _ _ 23 [.ref 0] [.int (nI ((rdg tl ta 41 0 0 qa).2.1))] (zW tl ta ((rdg tl ta 41 0 0 qa).2.1) (cpA (rdg tl ta 41 0 0 qa).2.2 ra (rdg tl ta 41 0 0 qa).2.1) ((rdg tl ta 41 0 0 qa).2.1) ((rdg tl ta 41 0 0 qa).2.2) 0 σ us kn ρ ks pts1 edg1 nr1 rt1 sc1 wf1 ws1 bsz1 bop1 bbg1 ben1 ptx' edx' nrx' rtx scx wfx wsx bsx box bbx bex suf)
    refine wq_iret rfl trivial ?_
    have hz5 := hz2.1
    rw [hz5]
    exact fin_ (P := CIA suf) (A' := (tl, tb, (rdA (tl, tb, (rn, rb), un, ua, kn, ka)).2, 0, ua, kn, ka)) hQ (by unfold f_lay; (try dsimp only); rw [if_pos hno]) ⟨_, _, _, _, _, _, _, _, _, _, _, _, _, _, _, _, _, _, _, _, _, _, _, _, _, _, _, _, _, _, rfl, ⟨hl, hta, hzV, fun i hi => by rw [cpA_in hi]; exact hz2.2 i (by rw [hz5]; exact hi), hzV.1, Nat.zero_le 6, hSu, fun j hj => absurd hj (Nat.not_lt_zero j), hk, hSk, hK, NI_congr hz2 hNI1, hbx⟩⟩
  · skip
    refine wq_bipush (v := (-2)) rfl (by decide) ?_
    refine wq_iret rfl trivial ?_
    have hne : (rdA (tl, tb, (rn, rb), un, ua, kn, ka)).1 ≠ none := fun z => by rw [hz1, z] at c6; exact c6 rfl
    exact fin_ (P := CIA suf) (A' := (tl, tb, (rn, rb), un, ua, kn, ka)) hQ (by unfold f_lay; (try dsimp only); rw [if_neg hne]) ⟨_, _, _, _, _, _, _, _, _, _, _, _, _, _, _, _, _, _, _, _, _, _, _, _, _, _, _, _, _, _, rfl, (CI_x hI0 hz4 hbx)⟩
theorem C_act {d : Nat} {suf : mH} {A : AS} {h : mH} {Q : Option Value → mH → Prop} (hR : CIA suf A h) {κ : Nat} (hκ0 : κ < 2 ^ 31) {x : Nat} (hx0 : x < 2 ^ 31) {y : Nat} (hy0 : y < 2 ^ 31)  (hQ : ∀ h', CIA suf (f_act A κ x y).2 h' → Q (some (.int (f_act A κ x y).1)) h') : Rn mprog (d + 9) n_Z_act [.ref 0, .int (nI κ), .int (nI x), .int (nI y)] h Q := by
  obtain ⟨tl, tb, ⟨rn, rb⟩, un, ua, kn, ka⟩ := A
  obtain ⟨ta, ra, qn, qa, σ, us, ρ, ks, pts, edg, nr, rt, sc, wf, ws, bsz, bop, bbg, ben, ptx, edx, nrx, rtx, scx, wfx, wsx, bsx, box, bbx, bex, rfl, hI⟩ := hR
  have hI0 := hI
  obtain ⟨hl, hta, hV0, hra, hqn, hu, hSu, hU, hk, hSk, hK, hNI, hbx⟩ := hI
  dsimp only at hl hta hV0 hra hqn hu hSu hU hk hSk hK hNI hbx
  have hE : EqR (rn, ra) (rn, rb) := ⟨rfl, hra⟩
  have hV : RV (rn, ra) := RV_congr hE hV0
  have hrn : rn ≤ 40 := hV.1
  obtain ⟨e1, e2, hnr0, hrt0, hsc0, hB, hO, hbv⟩ := hNI
  dsimp only at e1 e2 hnr0 hrt0 hsc0 hB hO hbv
  subst e1
  subst e2
  have hTV := stP hV0 (Nat.le_refl rn)
  have hpt := hTV.1.1
  have hnr : ∀ p, p < 9 → nr p < 512 := fun p hp => by rw [hnr0 p hp]; exact hTV.1.2.1.1 p hp
  obtain ⟨hn1, hq1⟩ := BL_BQ hV0 hB
  have hbz : ∀ i, i < bsz → bbg i < 2 ^ 31 ∧ ben i < 2 ^ 31 := fun i hi => hbv i (by omega)
  refine Rn.in rfl rfl rfl ?_
  show WP _ _ _ _ 0 [.ref 0, .int (nI κ), .int (nI x), .int (nI y), .long 0] [] (zW tl ta rn ra qn qa un σ us kn ρ ks ((stR rb rn).1) ((stR rb rn).2.1) nr rt sc wf ws bsz bop bbg ben ptx edx nrx rtx scx wfx wsx bsx box bbx bex suf)
  refine wq_iload_n rfl rfl ?_
  refine wq_stat (a := [.int (nI κ)]) (rest := []) rfl rfl rfl rfl rfl ?_
  refine r_Z_isKindN (by omega) (fun c1 => ?_) (fun c1 => ?_)
  · skip
    show WP _ _ _ _ 4 [.ref 0, .int (nI κ), .int (nI x), .int (nI y), .long 0] [.int (nI 1)] (zW tl ta rn ra qn qa un σ us kn ρ ks ((stR rb rn).1) ((stR rb rn).2.1) nr rt sc wf ws bsz bop bbg ben ptx edx nrx rtx scx wfx wsx bsx box bbx bex suf)
    refine wq_if_eq rfl (fun c => absurd c (by decide)) (fun _ => ?_)
    refine wq_iload_n rfl rfl ?_
    refine wq_stat (a := [.int (nI x)]) (rest := []) rfl rfl rfl rfl rfl ?_
    refine r_Z_isPtN (by omega) (fun c8 => ?_) (fun c8 => ?_)
    · skip
      show WP _ _ _ _ 11 [.ref 0, .int (nI κ), .int (nI x), .int (nI y), .long 0] [.int (nI 1)] (zW tl ta rn ra qn qa un σ us kn ρ ks ((stR rb rn).1) ((stR rb rn).2.1) nr rt sc wf ws bsz bop bbg ben ptx edx nrx rtx scx wfx wsx bsx box bbx bex suf)
      refine wq_if_eq rfl (fun c => absurd c (by decide)) (fun _ => ?_)
      refine wq_iload_n rfl rfl ?_
      refine wq_stat (a := [.int (nI y)]) (rest := []) rfl rfl rfl rfl rfl ?_
      refine r_Z_isPtN (by omega) (fun c15 => ?_) (fun c15 => ?_)
      · skip
        show WP _ _ _ _ 18 [.ref 0, .int (nI κ), .int (nI x), .int (nI y), .long 0] [.int (nI 1)] (zW tl ta rn ra qn qa un σ us kn ρ ks ((stR rb rn).1) ((stR rb rn).2.1) nr rt sc wf ws bsz bop bbg ben ptx edx nrx rtx scx wfx wsx bsx box bbx bex suf)
        refine wq_if_ne rfl (fun _ => ?_) (fun c => absurd c (by decide))
        refine wq_iload_n rfl rfl ?_
        refine wq_stat (a := [.int (nI κ)]) (rest := []) rfl rfl rfl rfl rfl ?_
        refine r_Z_edge (by omega) (fun c24 => ?_) (fun c24 => ?_)
        · skip
          show WP _ _ _ _ 27 [.ref 0, .int (nI κ), .int (nI x), .int (nI y), .long 0] [.int (nI 1)] (zW tl ta rn ra qn qa un σ us kn ρ ks ((stR rb rn).1) ((stR rb rn).2.1) nr rt sc wf ws bsz bop bbg ben ptx edx nrx rtx scx wfx wsx bsx box bbx bex suf)
          refine wq_if_eq rfl (fun c => absurd c (by decide)) (fun _ => ?_)
          refine wq_iload_n rfl rfl ?_
          refine wq_iload_n rfl rfl ?_
          refine wn_ic_ne rfl (by omega) (by omega) (fun c32 => ?_) (fun c32 => ?_)
          · skip
            refine wq_iload_n rfl rfl ?_
            refine wq_iload_n rfl rfl ?_
            refine wq_iload_n rfl rfl ?_
            refine wq_stat (a := [.int (nI κ), .int (nI x), .int (nI y)]) (rest := []) rfl rfl rfl rfl rfl ?_
            refine r_Z_actOf rfl rfl (by omega) (by omega) (by omega) ?_
            show WP _ _ _ _ 43 [.ref 0, .int (nI κ), .int (nI x), .int (nI y), .long 0] [.int (nI (acN κ x y))] (zW tl ta rn ra qn qa un σ us kn ρ ks ((stR rb rn).1) ((stR rb rn).2.1) nr rt sc wf ws bsz bop bbg ben ptx edx nrx rtx scx wfx wsx bsx box bbx bex suf)
            refine wq_istore (lv' := [.ref 0, .int (nI κ), .int (nI x), .int (nI y), .int (nI (acN κ x y))]) rfl rfl rfl ?_
            refine wq_aload_n rfl rfl ?_
            refine wq_getfield (v := .ref 27) rfl zo_0 rfl ?_
            refine wq_getfield (v := .ref 28) rfl zo_27 rfl ?_
            refine wq_iload rfl rfl ?_
            refine wq_virt (b := 28) (a := [.int (nI (acN κ x y))]) (rest := []) rfl rfl rfl rfl rfl zo_28 ?_
            have hav := acN_AV (κ := κ) (x := x) (y := y) (by omega) (by omega) (by omega)
            have hmc : mayB (stR rb rn).1 nr (acN κ x y >>> 8) (acN κ x y >>> 4 &&& 15) (acN κ x y &&& 15) = mayT (sT (tl, tb, (rn, rb), un, ua, kn, ka)) (acN κ x y) := by unfold mayT mayB sT; dsimp only; rw [hnr0 _ hav.2.1]
            rw [zv_ns]
            refine r_Net_canDo (by rfl) hav.1 hav.2.1 hav.2.2.1 hpt hnr (fun c54 => ?_) (fun c54 => ?_)
            all_goals rw [← zv_ns]
            · skip
              show WP _ _ _ _ 57 [.ref 0, .int (nI κ), .int (nI x), .int (nI y), .int (nI (acN κ x y))] [.int (nI 1)] (zW tl ta rn ra qn qa un σ us kn ρ ks ((stR rb rn).1) ((stR rb rn).2.1) nr rt sc wf ws bsz bop bbg ben ptx edx nrx rtx scx wfx wsx bsx box bbx bex suf)
              refine wq_if_ne rfl (fun _ => ?_) (fun c => absurd c (by decide))
              refine wq_aload_n rfl rfl ?_
              refine wq_getfield (v := .ref 3) rfl zo_0 rfl ?_
              refine wq_virt (b := 3) (a := []) (rest := []) rfl rfl rfl rfl rfl zo_3 ?_
              refine r_Row_size (ra := fun _ => 0) zo_3 ?_
              show WP _ _ _ _ 70 [.ref 0, .int (nI κ), .int (nI x), .int (nI y), .int (nI (acN κ x y))] [.int (nI rn)] (zW tl ta rn ra qn qa un σ us kn ρ ks ((stR rb rn).1) ((stR rb rn).2.1) nr rt sc wf ws bsz bop bbg ben ptx edx nrx rtx scx wfx wsx bsx box bbx bex suf)
              refine wq_bipush (v := nI 40) rfl (by decide) ?_
              refine wn_ic_lt rfl (by omega) (by omega) (fun c72 => ?_) (fun c72 => ?_)
              · skip
                refine wq_aload_n rfl rfl ?_
                refine wq_getfield (v := .ref 7) rfl zo_0 rfl ?_
                refine wq_aload_n rfl rfl ?_
                refine wq_getfield (v := .ref 3) rfl zo_0 rfl ?_
                refine wq_virt (b := 7) (a := [.ref 3]) (rest := []) rfl rfl rfl rfl rfl zo_7 ?_
                rw [zv_u]
                refine r_Shf_put (rn := rn) (ra := ra) (by rfl) (by omega) (by omega) hSu (by omega) (by omega) (fun _ _ _ => by rfl) (fun _ _ _ => by rfl) ?_
                intro σ1 us1 hSu1 hpu1 hpu2
                rw [← zv_u]
                show WP _ _ _ _ 89 [.ref 0, .int (nI κ), .int (nI x), .int (nI y), .int (nI (acN κ x y))] [] (zW tl ta rn ra qn qa (pz 6 un) σ1 us1 kn ρ ks ((stR rb rn).1) ((stR rb rn).2.1) nr rt sc wf ws bsz bop bbg ben ptx edx nrx rtx scx wfx wsx bsx box bbx bex suf)
                refine wq_aload_n rfl rfl ?_
                refine wq_getfield (v := .ref 3) rfl zo_0 rfl ?_
                refine wq_iload rfl rfl ?_
                refine wq_virt (b := 3) (a := [.int (nI (acN κ x y))]) (rest := []) rfl rfl rfl rfl rfl zo_3 ?_
                rw [zv_r]
                refine r_Row_add (by rfl) (by omega) ?_
                rw [← zv_r]
                show WP _ _ _ _ 98 [.ref 0, .int (nI κ), .int (nI x), .int (nI y), .int (nI (acN κ x y))] [] (zW tl ta (rn + 1) (uN' ra rn (acN κ x y)) qn qa (pz 6 un) σ1 us1 kn ρ ks ((stR rb rn).1) ((stR rb rn).2.1) nr rt sc wf ws bsz bop bbg ben ptx edx nrx rtx scx wfx wsx bsx box bbx bex suf)
                rw [hmc] at c54
                have hra1 : ∀ i, i < (rAd (rn, rb) (acN κ x y)).1 → uN' ra rn (acN κ x y) i = (rAd (rn, rb) (acN κ x y)).2 i := fun i hi => by
                  have hi : i < rn + 1 := hi
                  show uN' ra rn (acN κ x y) i = uN' rb rn (acN κ x y) i
                  by_cases e : i = rn
                  · rw [e, uN_s, uN_s]
                  · rw [uN_n e, uN_n e]; exact hra i (by omega)
                have hV1 : RV (rAd (rn, rb) (acN κ x y)) := RV_add hV0 (by omega) hav c54
                have hE1 : EqR (rn + 1, uN' ra rn (acN κ x y)) (rAd (rn, rb) (acN κ x y)) := ⟨rfl, hra1⟩
                refine wq_aload_n rfl rfl ?_
                refine wq_virt (b := 0) (a := []) (rest := []) rfl rfl rfl rfl rfl zo_0 ?_
                refine r_Z_tell (RV_congr hE1 hV1) hbv ?_
                intro pts1 edg1 nr1 rt1 sc1 wf1 ws1 bsz1 bop1 bbg1 ben1 hNI1
                show WP _ _ _ _ 102 [.ref 0, .int (nI κ), .int (nI x), .int (nI y), .int (nI (acN κ x y))] [] (zW tl ta (rn + 1) (uN' ra rn (acN κ x y)) qn qa (pz 6 un) σ1 us1 kn ρ ks pts1 edg1 nr1 rt1 sc1 wf1 ws1 bsz1 bop1 bbg1 ben1 ptx edx nrx rtx scx wfx wsx bsx box bbx bex suf)
                refine wq_aload_n rfl rfl ?_
                refine wq_getfield (v := .ref 3) rfl zo_0 rfl ?_
                refine wq_virt (b := 3) (a := []) (rest := []) rfl rfl rfl rfl rfl zo_3 ?_
                refine r_Row_size (ra := fun _ => 0) zo_3 ?_
                show WP _ _ _ _ 109 [.ref 0, .int (nI κ), .int (nI x), .int (nI y), .int (nI (acN κ x y))] [.int (nI (rn + 1))] (zW tl ta (rn + 1) (uN' ra rn (acN κ x y)) qn qa (pz 6 un) σ1 us1 kn ρ ks pts1 edg1 nr1 rt1 sc1 wf1 ws1 bsz1 bop1 bbg1 ben1 ptx edx nrx rtx scx wfx wsx bsx box bbx bex suf)
                refine wq_iret rfl trivial ?_
                exact fin_ (P := CIA suf) (A' := sR (nT (tl, tb, (rn, rb), un, ua, kn, ka)) (rAd (rn, rb) (acN κ x y))) hQ (by unfold f_act; (try dsimp only); (repeat first | rw [if_pos (by omega)] | rw [if_neg (by omega)] | rw [if_pos c54] | rw [if_neg (by rw [c54]; decide)]); try rfl) ⟨_, _, _, _, _, _, _, _, _, _, _, _, _, _, _, _, _, _, _, _, _, _, _, _, _, _, _, _, _, _, rfl, (CI_put hI0 hSu1 hpu1 hpu2 hV1 hra1 hqn (NI_congr hE1 hNI1) hbx)⟩
              · skip
                refine wq_bipush (v := (-3)) rfl (by decide) ?_
                refine wq_iret rfl trivial ?_
                rw [hmc] at c54
                exact fin_ (P := CIA suf) (A' := (tl, tb, (rn, rb), un, ua, kn, ka)) hQ (by unfold f_act; (try dsimp only); (repeat first | rw [if_pos (by omega)] | rw [if_neg (by omega)] | rw [if_pos c54] | rw [if_neg (by rw [c54]; decide)]); try rfl) ⟨_, _, _, _, _, _, _, _, _, _, _, _, _, _, _, _, _, _, _, _, _, _, _, _, _, _, _, _, _, _, rfl, hI0⟩
            · skip
              show WP _ _ _ _ 57 [.ref 0, .int (nI κ), .int (nI x), .int (nI y), .int (nI (acN κ x y))] [.int (nI 0)] (zW tl ta rn ra qn qa un σ us kn ρ ks ((stR rb rn).1) ((stR rb rn).2.1) nr rt sc wf ws bsz bop bbg ben ptx edx nrx rtx scx wfx wsx bsx box bbx bex suf)
              refine wq_if_ne rfl (fun c => absurd c (by decide)) (fun _ => ?_)
              refine wq_bipush (v := (-2)) rfl (by decide) ?_
              refine wq_iret rfl trivial ?_
              rw [hmc] at c54
              exact fin_ (P := CIA suf) (A' := (tl, tb, (rn, rb), un, ua, kn, ka)) hQ (by unfold f_act; (try dsimp only); (repeat first | rw [if_pos (by omega)] | rw [if_neg (by omega)] | rw [if_pos c54] | rw [if_neg (by rw [c54]; decide)]); try rfl) ⟨_, _, _, _, _, _, _, _, _, _, _, _, _, _, _, _, _, _, _, _, _, _, _, _, _, _, _, _, _, _, rfl, hI0⟩
          · skip
            refine wq_iconst (v := (-1)) rfl (by decide) ?_
            refine wq_iret rfl trivial ?_
            exact fin_ (P := CIA suf) (A' := (tl, tb, (rn, rb), un, ua, kn, ka)) hQ (by unfold f_act; (try dsimp only); (repeat first | rw [if_pos (by omega)] | rw [if_neg (by omega)]); try rfl) ⟨_, _, _, _, _, _, _, _, _, _, _, _, _, _, _, _, _, _, _, _, _, _, _, _, _, _, _, _, _, _, rfl, hI0⟩
        · skip
          show WP _ _ _ _ 27 [.ref 0, .int (nI κ), .int (nI x), .int (nI y), .long 0] [.int (nI 0)] (zW tl ta rn ra qn qa un σ us kn ρ ks ((stR rb rn).1) ((stR rb rn).2.1) nr rt sc wf ws bsz bop bbg ben ptx edx nrx rtx scx wfx wsx bsx box bbx bex suf)
          refine wq_if_eq rfl (fun _ => ?_) (fun c => absurd c (by decide))
          refine wq_iload_n rfl rfl ?_
          refine wq_iload_n rfl rfl ?_
          refine wq_iload_n rfl rfl ?_
          refine wq_stat (a := [.int (nI κ), .int (nI x), .int (nI y)]) (rest := []) rfl rfl rfl rfl rfl ?_
          refine r_Z_actOf rfl rfl (by omega) (by omega) (by omega) ?_
          show WP _ _ _ _ 43 [.ref 0, .int (nI κ), .int (nI x), .int (nI y), .long 0] [.int (nI (acN κ x y))] (zW tl ta rn ra qn qa un σ us kn ρ ks ((stR rb rn).1) ((stR rb rn).2.1) nr rt sc wf ws bsz bop bbg ben ptx edx nrx rtx scx wfx wsx bsx box bbx bex suf)
          refine wq_istore (lv' := [.ref 0, .int (nI κ), .int (nI x), .int (nI y), .int (nI (acN κ x y))]) rfl rfl rfl ?_
          refine wq_aload_n rfl rfl ?_
          refine wq_getfield (v := .ref 27) rfl zo_0 rfl ?_
          refine wq_getfield (v := .ref 28) rfl zo_27 rfl ?_
          refine wq_iload rfl rfl ?_
          refine wq_virt (b := 28) (a := [.int (nI (acN κ x y))]) (rest := []) rfl rfl rfl rfl rfl zo_28 ?_
          have hav := acN_AV (κ := κ) (x := x) (y := y) (by omega) (by omega) (by omega)
          have hmc : mayB (stR rb rn).1 nr (acN κ x y >>> 8) (acN κ x y >>> 4 &&& 15) (acN κ x y &&& 15) = mayT (sT (tl, tb, (rn, rb), un, ua, kn, ka)) (acN κ x y) := by unfold mayT mayB sT; dsimp only; rw [hnr0 _ hav.2.1]
          rw [zv_ns]
          refine r_Net_canDo (by rfl) hav.1 hav.2.1 hav.2.2.1 hpt hnr (fun c54 => ?_) (fun c54 => ?_)
          all_goals rw [← zv_ns]
          · skip
            show WP _ _ _ _ 57 [.ref 0, .int (nI κ), .int (nI x), .int (nI y), .int (nI (acN κ x y))] [.int (nI 1)] (zW tl ta rn ra qn qa un σ us kn ρ ks ((stR rb rn).1) ((stR rb rn).2.1) nr rt sc wf ws bsz bop bbg ben ptx edx nrx rtx scx wfx wsx bsx box bbx bex suf)
            refine wq_if_ne rfl (fun _ => ?_) (fun c => absurd c (by decide))
            refine wq_aload_n rfl rfl ?_
            refine wq_getfield (v := .ref 3) rfl zo_0 rfl ?_
            refine wq_virt (b := 3) (a := []) (rest := []) rfl rfl rfl rfl rfl zo_3 ?_
            refine r_Row_size (ra := fun _ => 0) zo_3 ?_
            show WP _ _ _ _ 70 [.ref 0, .int (nI κ), .int (nI x), .int (nI y), .int (nI (acN κ x y))] [.int (nI rn)] (zW tl ta rn ra qn qa un σ us kn ρ ks ((stR rb rn).1) ((stR rb rn).2.1) nr rt sc wf ws bsz bop bbg ben ptx edx nrx rtx scx wfx wsx bsx box bbx bex suf)
            refine wq_bipush (v := nI 40) rfl (by decide) ?_
            refine wn_ic_lt rfl (by omega) (by omega) (fun c72 => ?_) (fun c72 => ?_)
            · skip
              refine wq_aload_n rfl rfl ?_
              refine wq_getfield (v := .ref 7) rfl zo_0 rfl ?_
              refine wq_aload_n rfl rfl ?_
              refine wq_getfield (v := .ref 3) rfl zo_0 rfl ?_
              refine wq_virt (b := 7) (a := [.ref 3]) (rest := []) rfl rfl rfl rfl rfl zo_7 ?_
              rw [zv_u]
              refine r_Shf_put (rn := rn) (ra := ra) (by rfl) (by omega) (by omega) hSu (by omega) (by omega) (fun _ _ _ => by rfl) (fun _ _ _ => by rfl) ?_
              intro σ1 us1 hSu1 hpu1 hpu2
              rw [← zv_u]
              show WP _ _ _ _ 89 [.ref 0, .int (nI κ), .int (nI x), .int (nI y), .int (nI (acN κ x y))] [] (zW tl ta rn ra qn qa (pz 6 un) σ1 us1 kn ρ ks ((stR rb rn).1) ((stR rb rn).2.1) nr rt sc wf ws bsz bop bbg ben ptx edx nrx rtx scx wfx wsx bsx box bbx bex suf)
              refine wq_aload_n rfl rfl ?_
              refine wq_getfield (v := .ref 3) rfl zo_0 rfl ?_
              refine wq_iload rfl rfl ?_
              refine wq_virt (b := 3) (a := [.int (nI (acN κ x y))]) (rest := []) rfl rfl rfl rfl rfl zo_3 ?_
              rw [zv_r]
              refine r_Row_add (by rfl) (by omega) ?_
              rw [← zv_r]
              show WP _ _ _ _ 98 [.ref 0, .int (nI κ), .int (nI x), .int (nI y), .int (nI (acN κ x y))] [] (zW tl ta (rn + 1) (uN' ra rn (acN κ x y)) qn qa (pz 6 un) σ1 us1 kn ρ ks ((stR rb rn).1) ((stR rb rn).2.1) nr rt sc wf ws bsz bop bbg ben ptx edx nrx rtx scx wfx wsx bsx box bbx bex suf)
              rw [hmc] at c54
              have hra1 : ∀ i, i < (rAd (rn, rb) (acN κ x y)).1 → uN' ra rn (acN κ x y) i = (rAd (rn, rb) (acN κ x y)).2 i := fun i hi => by
                have hi : i < rn + 1 := hi
                show uN' ra rn (acN κ x y) i = uN' rb rn (acN κ x y) i
                by_cases e : i = rn
                · rw [e, uN_s, uN_s]
                · rw [uN_n e, uN_n e]; exact hra i (by omega)
              have hV1 : RV (rAd (rn, rb) (acN κ x y)) := RV_add hV0 (by omega) hav c54
              have hE1 : EqR (rn + 1, uN' ra rn (acN κ x y)) (rAd (rn, rb) (acN κ x y)) := ⟨rfl, hra1⟩
              refine wq_aload_n rfl rfl ?_
              refine wq_virt (b := 0) (a := []) (rest := []) rfl rfl rfl rfl rfl zo_0 ?_
              refine r_Z_tell (RV_congr hE1 hV1) hbv ?_
              intro pts1 edg1 nr1 rt1 sc1 wf1 ws1 bsz1 bop1 bbg1 ben1 hNI1
              show WP _ _ _ _ 102 [.ref 0, .int (nI κ), .int (nI x), .int (nI y), .int (nI (acN κ x y))] [] (zW tl ta (rn + 1) (uN' ra rn (acN κ x y)) qn qa (pz 6 un) σ1 us1 kn ρ ks pts1 edg1 nr1 rt1 sc1 wf1 ws1 bsz1 bop1 bbg1 ben1 ptx edx nrx rtx scx wfx wsx bsx box bbx bex suf)
              refine wq_aload_n rfl rfl ?_
              refine wq_getfield (v := .ref 3) rfl zo_0 rfl ?_
              refine wq_virt (b := 3) (a := []) (rest := []) rfl rfl rfl rfl rfl zo_3 ?_
              refine r_Row_size (ra := fun _ => 0) zo_3 ?_
              show WP _ _ _ _ 109 [.ref 0, .int (nI κ), .int (nI x), .int (nI y), .int (nI (acN κ x y))] [.int (nI (rn + 1))] (zW tl ta (rn + 1) (uN' ra rn (acN κ x y)) qn qa (pz 6 un) σ1 us1 kn ρ ks pts1 edg1 nr1 rt1 sc1 wf1 ws1 bsz1 bop1 bbg1 ben1 ptx edx nrx rtx scx wfx wsx bsx box bbx bex suf)
              refine wq_iret rfl trivial ?_
              exact fin_ (P := CIA suf) (A' := sR (nT (tl, tb, (rn, rb), un, ua, kn, ka)) (rAd (rn, rb) (acN κ x y))) hQ (by unfold f_act; (try dsimp only); (repeat first | rw [if_pos (by omega)] | rw [if_neg (by omega)] | rw [if_pos c54] | rw [if_neg (by rw [c54]; decide)]); try rfl) ⟨_, _, _, _, _, _, _, _, _, _, _, _, _, _, _, _, _, _, _, _, _, _, _, _, _, _, _, _, _, _, rfl, (CI_put hI0 hSu1 hpu1 hpu2 hV1 hra1 hqn (NI_congr hE1 hNI1) hbx)⟩
            · skip
              refine wq_bipush (v := (-3)) rfl (by decide) ?_
              refine wq_iret rfl trivial ?_
              rw [hmc] at c54
              exact fin_ (P := CIA suf) (A' := (tl, tb, (rn, rb), un, ua, kn, ka)) hQ (by unfold f_act; (try dsimp only); (repeat first | rw [if_pos (by omega)] | rw [if_neg (by omega)] | rw [if_pos c54] | rw [if_neg (by rw [c54]; decide)]); try rfl) ⟨_, _, _, _, _, _, _, _, _, _, _, _, _, _, _, _, _, _, _, _, _, _, _, _, _, _, _, _, _, _, rfl, hI0⟩
          · skip
            show WP _ _ _ _ 57 [.ref 0, .int (nI κ), .int (nI x), .int (nI y), .int (nI (acN κ x y))] [.int (nI 0)] (zW tl ta rn ra qn qa un σ us kn ρ ks ((stR rb rn).1) ((stR rb rn).2.1) nr rt sc wf ws bsz bop bbg ben ptx edx nrx rtx scx wfx wsx bsx box bbx bex suf)
            refine wq_if_ne rfl (fun c => absurd c (by decide)) (fun _ => ?_)
            refine wq_bipush (v := (-2)) rfl (by decide) ?_
            refine wq_iret rfl trivial ?_
            rw [hmc] at c54
            exact fin_ (P := CIA suf) (A' := (tl, tb, (rn, rb), un, ua, kn, ka)) hQ (by unfold f_act; (try dsimp only); (repeat first | rw [if_pos (by omega)] | rw [if_neg (by omega)] | rw [if_pos c54] | rw [if_neg (by rw [c54]; decide)]); try rfl) ⟨_, _, _, _, _, _, _, _, _, _, _, _, _, _, _, _, _, _, _, _, _, _, _, _, _, _, _, _, _, _, rfl, hI0⟩
      · skip
        show WP _ _ _ _ 18 [.ref 0, .int (nI κ), .int (nI x), .int (nI y), .long 0] [.int (nI 0)] (zW tl ta rn ra qn qa un σ us kn ρ ks ((stR rb rn).1) ((stR rb rn).2.1) nr rt sc wf ws bsz bop bbg ben ptx edx nrx rtx scx wfx wsx bsx box bbx bex suf)
        refine wq_if_ne rfl (fun c => absurd c (by decide)) (fun _ => ?_)
        refine wq_iconst (v := (-1)) rfl (by decide) ?_
        refine wq_iret rfl trivial ?_
        exact fin_ (P := CIA suf) (A' := (tl, tb, (rn, rb), un, ua, kn, ka)) hQ (by unfold f_act; (try dsimp only); (repeat first | rw [if_pos (by omega)] | rw [if_neg (by omega)]); try rfl) ⟨_, _, _, _, _, _, _, _, _, _, _, _, _, _, _, _, _, _, _, _, _, _, _, _, _, _, _, _, _, _, rfl, hI0⟩
    · skip
      show WP _ _ _ _ 11 [.ref 0, .int (nI κ), .int (nI x), .int (nI y), .long 0] [.int (nI 0)] (zW tl ta rn ra qn qa un σ us kn ρ ks ((stR rb rn).1) ((stR rb rn).2.1) nr rt sc wf ws bsz bop bbg ben ptx edx nrx rtx scx wfx wsx bsx box bbx bex suf)
      refine wq_if_eq rfl (fun _ => ?_) (fun c => absurd c (by decide))
      refine wq_iconst (v := (-1)) rfl (by decide) ?_
      refine wq_iret rfl trivial ?_
      exact fin_ (P := CIA suf) (A' := (tl, tb, (rn, rb), un, ua, kn, ka)) hQ (by unfold f_act; (try dsimp only); (repeat first | rw [if_pos (by omega)] | rw [if_neg (by omega)]); try rfl) ⟨_, _, _, _, _, _, _, _, _, _, _, _, _, _, _, _, _, _, _, _, _, _, _, _, _, _, _, _, _, _, rfl, hI0⟩
  · skip
    show WP _ _ _ _ 4 [.ref 0, .int (nI κ), .int (nI x), .int (nI y), .long 0] [.int (nI 0)] (zW tl ta rn ra qn qa un σ us kn ρ ks ((stR rb rn).1) ((stR rb rn).2.1) nr rt sc wf ws bsz bop bbg ben ptx edx nrx rtx scx wfx wsx bsx box bbx bex suf)
    refine wq_if_eq rfl (fun _ => ?_) (fun c => absurd c (by decide))
    refine wq_iconst (v := (-1)) rfl (by decide) ?_
    refine wq_iret rfl trivial ?_
    exact fin_ (P := CIA suf) (A' := (tl, tb, (rn, rb), un, ua, kn, ka)) hQ (by unfold f_act; (try dsimp only); (repeat first | rw [if_pos (by omega)] | rw [if_neg (by omega)]); try rfl) ⟨_, _, _, _, _, _, _, _, _, _, _, _, _, _, _, _, _, _, _, _, _, _, _, _, _, _, _, _, _, _, rfl, hI0⟩
theorem C_act_neg {d : Nat} {suf : mH} {A : AS} {h : mH} {Q : Option Value → mH → Prop} (hR : CIA suf A h) {v1 v2 v3 : Int32} (hneg : v1 < 0 ∨ v2 < 0 ∨ v3 < 0) (hQ : ∀ h', CIA suf A h' → Q (some (.int (-1))) h') : Rn mprog (d + 9) n_Z_act [.ref 0, .int v1, .int v2, .int v3] h Q := by
  obtain ⟨tl, tb, ⟨rn, rb⟩, un, ua, kn, ka⟩ := A
  obtain ⟨ta, ra, qn, qa, σ, us, ρ, ks, pts, edg, nr, rt, sc, wf, ws, bsz, bop, bbg, ben, ptx, edx, nrx, rtx, scx, wfx, wsx, bsx, box, bbx, bex, rfl, hI⟩ := hR
  have hI0 := hI
  obtain ⟨hl, hta, hV0, hra, hqn, hu, hSu, hU, hk, hSk, hK, hNI, hbx⟩ := hI
  dsimp only at hl hta hV0 hra hqn hu hSu hU hk hSk hK hNI hbx
  have hE : EqR (rn, ra) (rn, rb) := ⟨rfl, hra⟩
  have hV : RV (rn, ra) := RV_congr hE hV0
  have hrn : rn ≤ 40 := hV.1
  obtain ⟨e1, e2, hnr0, hrt0, hsc0, hB, hO, hbv⟩ := hNI
  dsimp only at e1 e2 hnr0 hrt0 hsc0 hB hO hbv
  subst e1
  subst e2
  have hTV := stP hV0 (Nat.le_refl rn)
  have hpt := hTV.1.1
  have hnr : ∀ p, p < 9 → nr p < 512 := fun p hp => by rw [hnr0 p hp]; exact hTV.1.2.1.1 p hp
  obtain ⟨hn1, hq1⟩ := BL_BQ hV0 hB
  have hbz : ∀ i, i < bsz → bbg i < 2 ^ 31 ∧ ben i < 2 ^ 31 := fun i hi => hbv i (by omega)
  rcases hneg with hneg | hneg | hneg
  · skip
    refine Rn.in rfl rfl rfl ?_
    show WP _ _ _ _ 0 [.ref 0, .int v1, .int v2, .int v3, .long 0] [] (zW tl ta rn ra qn qa un σ us kn ρ ks ((stR rb rn).1) ((stR rb rn).2.1) nr rt sc wf ws bsz bop bbg ben ptx edx nrx rtx scx wfx wsx bsx box bbx bex suf)
    refine wq_iload_n rfl rfl ?_
    refine wq_stat (a := [.int v1]) (rest := []) rfl rfl rfl rfl rfl ?_
    refine r_Z_isKind (fun c1 => absurd c1 (fun z => nI_ngl (k := 0) hneg (by decide) z.1)) (fun c1 => ?_)
    show WP _ _ _ _ 4 [.ref 0, .int v1, .int v2, .int v3, .long 0] [.int (nI 0)] (zW tl ta rn ra qn qa un σ us kn ρ ks ((stR rb rn).1) ((stR rb rn).2.1) nr rt sc wf ws bsz bop bbg ben ptx edx nrx rtx scx wfx wsx bsx box bbx bex suf)
    refine wq_if_eq rfl (fun _ => ?_) (fun c => absurd c (by decide))
    refine wq_iconst (v := (-1)) rfl (by decide) ?_
    refine wq_iret rfl trivial ?_
    exact hQ _ ⟨_, _, _, _, _, _, _, _, _, _, _, _, _, _, _, _, _, _, _, _, _, _, _, _, _, _, _, _, _, _, rfl, hI0⟩
  · skip
    refine Rn.in rfl rfl rfl ?_
    show WP _ _ _ _ 0 [.ref 0, .int v1, .int v2, .int v3, .long 0] [] (zW tl ta rn ra qn qa un σ us kn ρ ks ((stR rb rn).1) ((stR rb rn).2.1) nr rt sc wf ws bsz bop bbg ben ptx edx nrx rtx scx wfx wsx bsx box bbx bex suf)
    refine wq_iload_n rfl rfl ?_
    refine wq_stat (a := [.int v1]) (rest := []) rfl rfl rfl rfl rfl ?_
    refine r_Z_isKind (fun c1 => ?_) (fun c1 => ?_)
    · skip
      show WP _ _ _ _ 4 [.ref 0, .int v1, .int v2, .int v3, .long 0] [.int (nI 1)] (zW tl ta rn ra qn qa un σ us kn ρ ks ((stR rb rn).1) ((stR rb rn).2.1) nr rt sc wf ws bsz bop bbg ben ptx edx nrx rtx scx wfx wsx bsx box bbx bex suf)
      refine wq_if_eq rfl (fun c => absurd c (by decide)) (fun _ => ?_)
      refine wq_iload_n rfl rfl ?_
      refine wq_stat (a := [.int v2]) (rest := []) rfl rfl rfl rfl rfl ?_
      refine r_Z_isPoint (fun c8 => absurd c8 (fun z => nI_ngl (k := 0) hneg (by decide) z.1)) (fun c8 => ?_)
      show WP _ _ _ _ 11 [.ref 0, .int v1, .int v2, .int v3, .long 0] [.int (nI 0)] (zW tl ta rn ra qn qa un σ us kn ρ ks ((stR rb rn).1) ((stR rb rn).2.1) nr rt sc wf ws bsz bop bbg ben ptx edx nrx rtx scx wfx wsx bsx box bbx bex suf)
      refine wq_if_eq rfl (fun _ => ?_) (fun c => absurd c (by decide))
      refine wq_iconst (v := (-1)) rfl (by decide) ?_
      refine wq_iret rfl trivial ?_
      exact hQ _ ⟨_, _, _, _, _, _, _, _, _, _, _, _, _, _, _, _, _, _, _, _, _, _, _, _, _, _, _, _, _, _, rfl, hI0⟩
    · skip
      show WP _ _ _ _ 4 [.ref 0, .int v1, .int v2, .int v3, .long 0] [.int (nI 0)] (zW tl ta rn ra qn qa un σ us kn ρ ks ((stR rb rn).1) ((stR rb rn).2.1) nr rt sc wf ws bsz bop bbg ben ptx edx nrx rtx scx wfx wsx bsx box bbx bex suf)
      refine wq_if_eq rfl (fun _ => ?_) (fun c => absurd c (by decide))
      refine wq_iconst (v := (-1)) rfl (by decide) ?_
      refine wq_iret rfl trivial ?_
      exact hQ _ ⟨_, _, _, _, _, _, _, _, _, _, _, _, _, _, _, _, _, _, _, _, _, _, _, _, _, _, _, _, _, _, rfl, hI0⟩
  · skip
    refine Rn.in rfl rfl rfl ?_
    show WP _ _ _ _ 0 [.ref 0, .int v1, .int v2, .int v3, .long 0] [] (zW tl ta rn ra qn qa un σ us kn ρ ks ((stR rb rn).1) ((stR rb rn).2.1) nr rt sc wf ws bsz bop bbg ben ptx edx nrx rtx scx wfx wsx bsx box bbx bex suf)
    refine wq_iload_n rfl rfl ?_
    refine wq_stat (a := [.int v1]) (rest := []) rfl rfl rfl rfl rfl ?_
    refine r_Z_isKind (fun c1 => ?_) (fun c1 => ?_)
    · skip
      show WP _ _ _ _ 4 [.ref 0, .int v1, .int v2, .int v3, .long 0] [.int (nI 1)] (zW tl ta rn ra qn qa un σ us kn ρ ks ((stR rb rn).1) ((stR rb rn).2.1) nr rt sc wf ws bsz bop bbg ben ptx edx nrx rtx scx wfx wsx bsx box bbx bex suf)
      refine wq_if_eq rfl (fun c => absurd c (by decide)) (fun _ => ?_)
      refine wq_iload_n rfl rfl ?_
      refine wq_stat (a := [.int v2]) (rest := []) rfl rfl rfl rfl rfl ?_
      refine r_Z_isPoint (fun c8 => ?_) (fun c8 => ?_)
      · skip
        show WP _ _ _ _ 11 [.ref 0, .int v1, .int v2, .int v3, .long 0] [.int (nI 1)] (zW tl ta rn ra qn qa un σ us kn ρ ks ((stR rb rn).1) ((stR rb rn).2.1) nr rt sc wf ws bsz bop bbg ben ptx edx nrx rtx scx wfx wsx bsx box bbx bex suf)
        refine wq_if_eq rfl (fun c => absurd c (by decide)) (fun _ => ?_)
        refine wq_iload_n rfl rfl ?_
        refine wq_stat (a := [.int v3]) (rest := []) rfl rfl rfl rfl rfl ?_
        refine r_Z_isPoint (fun c15 => absurd c15 (fun z => nI_ngl (k := 0) hneg (by decide) z.1)) (fun c15 => ?_)
        show WP _ _ _ _ 18 [.ref 0, .int v1, .int v2, .int v3, .long 0] [.int (nI 0)] (zW tl ta rn ra qn qa un σ us kn ρ ks ((stR rb rn).1) ((stR rb rn).2.1) nr rt sc wf ws bsz bop bbg ben ptx edx nrx rtx scx wfx wsx bsx box bbx bex suf)
        refine wq_if_ne rfl (fun c => absurd c (by decide)) (fun _ => ?_)
        refine wq_iconst (v := (-1)) rfl (by decide) ?_
        refine wq_iret rfl trivial ?_
        exact hQ _ ⟨_, _, _, _, _, _, _, _, _, _, _, _, _, _, _, _, _, _, _, _, _, _, _, _, _, _, _, _, _, _, rfl, hI0⟩
      · skip
        show WP _ _ _ _ 11 [.ref 0, .int v1, .int v2, .int v3, .long 0] [.int (nI 0)] (zW tl ta rn ra qn qa un σ us kn ρ ks ((stR rb rn).1) ((stR rb rn).2.1) nr rt sc wf ws bsz bop bbg ben ptx edx nrx rtx scx wfx wsx bsx box bbx bex suf)
        refine wq_if_eq rfl (fun _ => ?_) (fun c => absurd c (by decide))
        refine wq_iconst (v := (-1)) rfl (by decide) ?_
        refine wq_iret rfl trivial ?_
        exact hQ _ ⟨_, _, _, _, _, _, _, _, _, _, _, _, _, _, _, _, _, _, _, _, _, _, _, _, _, _, _, _, _, _, rfl, hI0⟩
    · skip
      show WP _ _ _ _ 4 [.ref 0, .int v1, .int v2, .int v3, .long 0] [.int (nI 0)] (zW tl ta rn ra qn qa un σ us kn ρ ks ((stR rb rn).1) ((stR rb rn).2.1) nr rt sc wf ws bsz bop bbg ben ptx edx nrx rtx scx wfx wsx bsx box bbx bex suf)
      refine wq_if_eq rfl (fun _ => ?_) (fun c => absurd c (by decide))
      refine wq_iconst (v := (-1)) rfl (by decide) ?_
      refine wq_iret rfl trivial ?_
      exact hQ _ ⟨_, _, _, _, _, _, _, _, _, _, _, _, _, _, _, _, _, _, _, _, _, _, _, _, _, _, _, _, _, _, rfl, hI0⟩
theorem C_drop {d : Nat} {suf : mH} {A : AS} {h : mH} {Q : Option Value → mH → Prop} (hR : CIA suf A h)   (hQ : ∀ h', CIA suf (f_drop A ).2 h' → Q (some (.int (f_drop A ).1)) h') : Rn mprog (d + 9) n_Z_drop [.ref 0] h Q := by
  obtain ⟨tl, tb, ⟨rn, rb⟩, un, ua, kn, ka⟩ := A
  obtain ⟨ta, ra, qn, qa, σ, us, ρ, ks, pts, edg, nr, rt, sc, wf, ws, bsz, bop, bbg, ben, ptx, edx, nrx, rtx, scx, wfx, wsx, bsx, box, bbx, bex, rfl, hI⟩ := hR
  have hI0 := hI
  obtain ⟨hl, hta, hV0, hra, hqn, hu, hSu, hU, hk, hSk, hK, hNI, hbx⟩ := hI
  dsimp only at hl hta hV0 hra hqn hu hSu hU hk hSk hK hNI hbx
  have hE : EqR (rn, ra) (rn, rb) := ⟨rfl, hra⟩
  have hV : RV (rn, ra) := RV_congr hE hV0
  have hrn : rn ≤ 40 := hV.1
  obtain ⟨e1, e2, hnr0, hrt0, hsc0, hB, hO, hbv⟩ := hNI
  dsimp only at e1 e2 hnr0 hrt0 hsc0 hB hO hbv
  subst e1
  subst e2
  have hTV := stP hV0 (Nat.le_refl rn)
  have hpt := hTV.1.1
  have hnr : ∀ p, p < 9 → nr p < 512 := fun p hp => by rw [hnr0 p hp]; exact hTV.1.2.1.1 p hp
  obtain ⟨hn1, hq1⟩ := BL_BQ hV0 hB
  have hbz : ∀ i, i < bsz → bbg i < 2 ^ 31 ∧ ben i < 2 ^ 31 := fun i hi => hbv i (by omega)
  refine Rn.in rfl rfl rfl ?_
  show WP _ _ _ _ 0 [.ref 0] [] (zW tl ta rn ra qn qa un σ us kn ρ ks ((stR rb rn).1) ((stR rb rn).2.1) nr rt sc wf ws bsz bop bbg ben ptx edx nrx rtx scx wfx wsx bsx box bbx bex suf)
  refine wq_aload_n rfl rfl ?_
  refine wq_getfield (v := .ref 3) rfl zo_0 rfl ?_
  refine wq_virt (b := 3) (a := []) (rest := []) rfl rfl rfl rfl rfl zo_3 ?_
  refine r_Row_size (ra := fun _ => 0) zo_3 ?_
  show WP _ _ _ _ 7 [.ref 0] [.int (nI rn)] (zW tl ta rn ra qn qa un σ us kn ρ ks ((stR rb rn).1) ((stR rb rn).2.1) nr rt sc wf ws bsz bop bbg ben ptx edx nrx rtx scx wfx wsx bsx box bbx bex suf)
  refine wn_if_ne rfl (by omega) (fun c7 => ?_) (fun c7 => ?_)
  · skip
    refine wq_aload_n rfl rfl ?_
    refine wq_getfield (v := .ref 7) rfl zo_0 rfl ?_
    refine wq_aload_n rfl rfl ?_
    refine wq_getfield (v := .ref 3) rfl zo_0 rfl ?_
    refine wq_virt (b := 7) (a := [.ref 3]) (rest := []) rfl rfl rfl rfl rfl zo_7 ?_
    rw [zv_u]
    refine r_Shf_put (rn := rn) (ra := ra) (by rfl) (by omega) (by omega) hSu (by omega) (by omega) (fun _ _ _ => by rfl) (fun _ _ _ => by rfl) ?_
    intro σ1 us1 hSu1 hpu1 hpu2
    rw [← zv_u]
    show WP _ _ _ _ 24 [.ref 0] [] (zW tl ta rn ra qn qa (pz 6 un) σ1 us1 kn ρ ks ((stR rb rn).1) ((stR rb rn).2.1) nr rt sc wf ws bsz bop bbg ben ptx edx nrx rtx scx wfx wsx bsx box bbx bex suf)
    refine wq_aload_n rfl rfl ?_
    refine wq_getfield (v := .ref 3) rfl zo_0 rfl ?_
    refine wq_virt (b := 3) (a := []) (rest := []) rfl rfl rfl rfl rfl zo_3 ?_
    rw [zv_r]
    refine r_Row_removeLast (by rfl) (by omega) (by omega) ?_
    rw [← zv_r]
    show WP _ _ _ _ 31 [.ref 0] [] (zW tl ta (rn - 1) ra qn qa (pz 6 un) σ1 us1 kn ρ ks ((stR rb rn).1) ((stR rb rn).2.1) nr rt sc wf ws bsz bop bbg ben ptx edx nrx rtx scx wfx wsx bsx box bbx bex suf)
    have hV1 : RV (rn - 1, rb) := RV_le hV0 (by omega)
    have hE1 : EqR (rn - 1, ra) (rn - 1, rb) := ⟨rfl, fun i hi => hra i (by have : i < rn - 1 := hi; omega)⟩
    refine wq_aload_n rfl rfl ?_
    refine wq_virt (b := 0) (a := []) (rest := []) rfl rfl rfl rfl rfl zo_0 ?_
    refine r_Z_tell (RV_congr hE1 hV1) hbv ?_
    intro pts1 edg1 nr1 rt1 sc1 wf1 ws1 bsz1 bop1 bbg1 ben1 hNI1
    show WP _ _ _ _ 35 [.ref 0] [] (zW tl ta (rn - 1) ra qn qa (pz 6 un) σ1 us1 kn ρ ks pts1 edg1 nr1 rt1 sc1 wf1 ws1 bsz1 bop1 bbg1 ben1 ptx edx nrx rtx scx wfx wsx bsx box bbx bex suf)
    refine wq_aload_n rfl rfl ?_
    refine wq_getfield (v := .ref 3) rfl zo_0 rfl ?_
    refine wq_virt (b := 3) (a := []) (rest := []) rfl rfl rfl rfl rfl zo_3 ?_
    refine r_Row_size (ra := fun _ => 0) zo_3 ?_
    show WP _ _ _ _ 42 [.ref 0] [.int (nI (rn - 1))] (zW tl ta (rn - 1) ra qn qa (pz 6 un) σ1 us1 kn ρ ks pts1 edg1 nr1 rt1 sc1 wf1 ws1 bsz1 bop1 bbg1 ben1 ptx edx nrx rtx scx wfx wsx bsx box bbx bex suf)
    refine wq_iret rfl trivial ?_
    exact fin_ (P := CIA suf) (A' := sR (nT (tl, tb, (rn, rb), un, ua, kn, ka)) (rn - 1, rb)) hQ (by unfold f_drop; (try dsimp only); (repeat first | rw [if_pos (by omega)] | rw [if_neg (by omega)]); try rfl) ⟨_, _, _, _, _, _, _, _, _, _, _, _, _, _, _, _, _, _, _, _, _, _, _, _, _, _, _, _, _, _, rfl, (CI_put hI0 hSu1 hpu1 hpu2 hV1 hE1.2 hqn (NI_congr hE1 hNI1) hbx)⟩
  · skip
    refine wq_bipush (v := (-2)) rfl (by decide) ?_
    refine wq_iret rfl trivial ?_
    exact fin_ (P := CIA suf) (A' := (tl, tb, (rn, rb), un, ua, kn, ka)) hQ (by unfold f_drop; (try dsimp only); (repeat first | rw [if_pos (by omega)] | rw [if_neg (by omega)]); try rfl) ⟨_, _, _, _, _, _, _, _, _, _, _, _, _, _, _, _, _, _, _, _, _, _, _, _, _, _, _, _, _, _, rfl, hI0⟩
theorem C_told {d : Nat} {suf : mH} {A : AS} {h : mH} {Q : Option Value → mH → Prop} (hR : CIA suf A h) {k : Nat} (hk0 : k < 2 ^ 31) {w : Nat} (hw0 : w < 2 ^ 31)  (hQ : ∀ h', CIA suf (f_told A k w).2 h' → Q (some (.int (f_told A k w).1)) h') : Rn mprog (d + 9) n_Z_told [.ref 0, .int (nI k), .int (nI w)] h Q := by
  obtain ⟨tl, tb, ⟨rn, rb⟩, un, ua, kn, ka⟩ := A
  obtain ⟨ta, ra, qn, qa, σ, us, ρ, ks, pts, edg, nr, rt, sc, wf, ws, bsz, bop, bbg, ben, ptx, edx, nrx, rtx, scx, wfx, wsx, bsx, box, bbx, bex, rfl, hI⟩ := hR
  have hI0 := hI
  obtain ⟨hl, hta, hV0, hra, hqn, hu, hSu, hU, hk, hSk, hK, hNI, hbx⟩ := hI
  dsimp only at hl hta hV0 hra hqn hu hSu hU hk hSk hK hNI hbx
  have hE : EqR (rn, ra) (rn, rb) := ⟨rfl, hra⟩
  have hV : RV (rn, ra) := RV_congr hE hV0
  have hrn : rn ≤ 40 := hV.1
  obtain ⟨e1, e2, hnr0, hrt0, hsc0, hB, hO, hbv⟩ := hNI
  dsimp only at e1 e2 hnr0 hrt0 hsc0 hB hO hbv
  subst e1
  subst e2
  have hTV := stP hV0 (Nat.le_refl rn)
  have hpt := hTV.1.1
  have hnr : ∀ p, p < 9 → nr p < 512 := fun p hp => by rw [hnr0 p hp]; exact hTV.1.2.1.1 p hp
  obtain ⟨hn1, hq1⟩ := BL_BQ hV0 hB
  have hbz : ∀ i, i < bsz → bbg i < 2 ^ 31 ∧ ben i < 2 ^ 31 := fun i hi => hbv i (by omega)
  refine Rn.in rfl rfl rfl ?_
  show WP _ _ _ _ 0 [.ref 0, .int (nI k), .int (nI w), .long 0] [] (zW tl ta rn ra qn qa un σ us kn ρ ks ((stR rb rn).1) ((stR rb rn).2.1) nr rt sc wf ws bsz bop bbg ben ptx edx nrx rtx scx wfx wsx bsx box bbx bex suf)
  refine wq_iload_n rfl rfl ?_
  refine wq_iconst (v := nI 1) rfl (by decide) ?_
  refine wn_ic_lt rfl (by omega) (by omega) (fun c2 => ?_) (fun c2 => ?_)
  · skip
    refine wq_iconst (v := (-1)) rfl (by decide) ?_
    refine wq_iret rfl trivial ?_
    exact fin_ (P := CIA suf) (A' := (tl, tb, (rn, rb), un, ua, kn, ka)) hQ (by unfold f_told; (try dsimp only); (repeat first | rw [if_pos (by omega)] | rw [if_neg (by omega)]); try rfl) ⟨_, _, _, _, _, _, _, _, _, _, _, _, _, _, _, _, _, _, _, _, _, _, _, _, _, _, _, _, _, _, rfl, hI0⟩
  · skip
    refine wq_iload_n rfl rfl ?_
    refine wq_aload_n rfl rfl ?_
    refine wq_getfield (v := .ref 3) rfl zo_0 rfl ?_
    refine wq_virt (b := 3) (a := []) (rest := [.int (nI k)]) rfl rfl rfl rfl rfl zo_3 ?_
    refine r_Row_size (ra := fun _ => 0) zo_3 ?_
    show WP _ _ _ _ 13 [.ref 0, .int (nI k), .int (nI w), .long 0] [.int (nI rn), .int (nI k)] (zW tl ta rn ra qn qa un σ us kn ρ ks ((stR rb rn).1) ((stR rb rn).2.1) nr rt sc wf ws bsz bop bbg ben ptx edx nrx rtx scx wfx wsx bsx box bbx bex suf)
    refine wn_ic_gt rfl (by omega) (by omega) (fun c13 => ?_) (fun c13 => ?_)
    · skip
      refine wq_iconst (v := (-1)) rfl (by decide) ?_
      refine wq_iret rfl trivial ?_
      exact fin_ (P := CIA suf) (A' := (tl, tb, (rn, rb), un, ua, kn, ka)) hQ (by unfold f_told; (try dsimp only); (repeat first | rw [if_pos (by omega)] | rw [if_neg (by omega)]); try rfl) ⟨_, _, _, _, _, _, _, _, _, _, _, _, _, _, _, _, _, _, _, _, _, _, _, _, _, _, _, _, _, _, rfl, hI0⟩
    · skip
      refine wq_iload_n rfl rfl ?_
      refine wn_if_lt rfl (by omega) ?_
      refine wq_iload_n rfl rfl ?_
      refine wq_iconst (v := nI 2) rfl (by decide) ?_
      refine wn_ic_le rfl (by omega) (by omega) (fun c22 => ?_) (fun c22 => ?_)
      · skip
        refine wq_aload_n rfl rfl ?_
        refine wq_getfield (v := .ref 3) rfl zo_0 rfl ?_
        refine wq_iload_n rfl rfl ?_
        refine wq_virt (b := 3) (a := [.int (nI k)]) (rest := []) rfl rfl rfl rfl rfl zo_3 ?_
        refine r_Row_actAt zo_3 zo_4b (by omega) (by omega) (by omega) ?_
        show WP _ _ _ _ 35 [.ref 0, .int (nI k), .int (nI w), .long 0] [.int (nI (ra (k - 1)))] (zW tl ta rn ra qn qa un σ us kn ρ ks ((stR rb rn).1) ((stR rb rn).2.1) nr rt sc wf ws bsz bop bbg ben ptx edx nrx rtx scx wfx wsx bsx box bbx bex suf)
        have hrk : ra (k - 1) = rb (k - 1) := hra _ (by omega)
        have hav : AV (ra (k - 1)) := hV.2.1 _ (by show k - 1 < rn; omega)
        have ha1 := hav.1
        refine wq_istore_n (lv' := [.ref 0, .int (nI k), .int (nI w), .int (nI (ra (k - 1)))]) rfl rfl rfl ?_
        refine wq_iload_n rfl rfl ?_
        refine wn_if_ne rfl (by omega) (fun c37 => ?_) (fun c37 => ?_)
        · skip
          refine wq_iload_n rfl rfl ?_
          refine wq_iconst (v := nI 1) rfl (by decide) ?_
          refine wn_ic_ne rfl (by omega) (by omega) (fun c47 => ?_) (fun c47 => ?_)
          · skip
            refine wq_iload_n rfl rfl ?_
            refine wq_stat (a := [.int (nI (ra (k - 1)))]) (rest := []) rfl rfl rfl rfl rfl ?_
            refine r_Z_kindOf (by omega) ?_
            show WP _ _ _ _ 59 [.ref 0, .int (nI k), .int (nI w), .int (nI (ra (k - 1)))] [.int (nI ((ra (k - 1)) >>> 8))] (zW tl ta rn ra qn qa un σ us kn ρ ks ((stR rb rn).1) ((stR rb rn).2.1) nr rt sc wf ws bsz bop bbg ben ptx edx nrx rtx scx wfx wsx bsx box bbx bex suf)
            refine wq_stat (a := [.int (nI ((ra (k - 1)) >>> 8))]) (rest := []) rfl rfl rfl rfl rfl ?_
            refine r_Z_edge (AV_k hav) (fun c59 => ?_) (fun c59 => ?_)
            · skip
              show WP _ _ _ _ 62 [.ref 0, .int (nI k), .int (nI w), .int (nI (ra (k - 1)))] [.int (nI 1)] (zW tl ta rn ra qn qa un σ us kn ρ ks ((stR rb rn).1) ((stR rb rn).2.1) nr rt sc wf ws bsz bop bbg ben ptx edx nrx rtx scx wfx wsx bsx box bbx bex suf)
              refine wq_if_eq rfl (fun c => absurd c (by decide)) (fun _ => ?_)
              refine wq_iload_n rfl rfl ?_
              refine wq_stat (a := [.int (nI (ra (k - 1)))]) (rest := []) rfl rfl rfl rfl rfl ?_
              refine r_Z_highOf ?_
              show WP _ _ _ _ 69 [.ref 0, .int (nI k), .int (nI w), .int (nI (ra (k - 1)))] [.int (nI ((ra (k - 1)) &&& 15))] (zW tl ta rn ra qn qa un σ us kn ρ ks ((stR rb rn).1) ((stR rb rn).2.1) nr rt sc wf ws bsz bop bbg ben ptx edx nrx rtx scx wfx wsx bsx box bbx bex suf)
              refine wq_goto rfl ?_
              refine wq_iret rfl trivial ?_
              rw [hrk]
              rw [hrk] at c59
              exact fin_ (P := CIA suf) (A' := (tl, tb, (rn, rb), un, ua, kn, ka)) hQ (by unfold f_told; (try dsimp only); rw [if_neg (by omega), if_neg (by omega), if_neg (by omega), if_neg (Nat.not_lt.mpr c59)]) ⟨_, _, _, _, _, _, _, _, _, _, _, _, _, _, _, _, _, _, _, _, _, _, _, _, _, _, _, _, _, _, rfl, hI0⟩
            · skip
              show WP _ _ _ _ 62 [.ref 0, .int (nI k), .int (nI w), .int (nI (ra (k - 1)))] [.int (nI 0)] (zW tl ta rn ra qn qa un σ us kn ρ ks ((stR rb rn).1) ((stR rb rn).2.1) nr rt sc wf ws bsz bop bbg ben ptx edx nrx rtx scx wfx wsx bsx box bbx bex suf)
              refine wq_if_eq rfl (fun _ => ?_) (fun c => absurd c (by decide))
              refine wq_bipush (v := (-4)) rfl (by decide) ?_
              refine wq_iret rfl trivial ?_
              rw [hrk] at c59
              exact fin_ (P := CIA suf) (A' := (tl, tb, (rn, rb), un, ua, kn, ka)) hQ (by unfold f_told; (try dsimp only); rw [if_neg (by omega), if_neg (by omega), if_neg (by omega), if_pos c59]) ⟨_, _, _, _, _, _, _, _, _, _, _, _, _, _, _, _, _, _, _, _, _, _, _, _, _, _, _, _, _, _, rfl, hI0⟩
          · skip
            refine wq_iload_n rfl rfl ?_
            refine wq_stat (a := [.int (nI (ra (k - 1)))]) (rest := []) rfl rfl rfl rfl rfl ?_
            refine r_Z_lowOf (by omega) ?_
            show WP _ _ _ _ 54 [.ref 0, .int (nI k), .int (nI w), .int (nI (ra (k - 1)))] [.int (nI ((ra (k - 1)) >>> 4 &&& 15))] (zW tl ta rn ra qn qa un σ us kn ρ ks ((stR rb rn).1) ((stR rb rn).2.1) nr rt sc wf ws bsz bop bbg ben ptx edx nrx rtx scx wfx wsx bsx box bbx bex suf)
            refine wq_iret rfl trivial ?_
            rw [hrk]
            exact fin_ (P := CIA suf) (A' := (tl, tb, (rn, rb), un, ua, kn, ka)) hQ (by unfold f_told; (try dsimp only); (repeat first | rw [if_pos (by omega)] | rw [if_neg (by omega)]); try rfl) ⟨_, _, _, _, _, _, _, _, _, _, _, _, _, _, _, _, _, _, _, _, _, _, _, _, _, _, _, _, _, _, rfl, hI0⟩
        · skip
          refine wq_iload_n rfl rfl ?_
          refine wq_stat (a := [.int (nI (ra (k - 1)))]) (rest := []) rfl rfl rfl rfl rfl ?_
          refine r_Z_kindOf (by omega) ?_
          show WP _ _ _ _ 44 [.ref 0, .int (nI k), .int (nI w), .int (nI (ra (k - 1)))] [.int (nI ((ra (k - 1)) >>> 8))] (zW tl ta rn ra qn qa un σ us kn ρ ks ((stR rb rn).1) ((stR rb rn).2.1) nr rt sc wf ws bsz bop bbg ben ptx edx nrx rtx scx wfx wsx bsx box bbx bex suf)
          refine wq_iret rfl trivial ?_
          rw [hrk]
          exact fin_ (P := CIA suf) (A' := (tl, tb, (rn, rb), un, ua, kn, ka)) hQ (by unfold f_told; (try dsimp only); (repeat first | rw [if_pos (by omega)] | rw [if_neg (by omega)]); try rfl) ⟨_, _, _, _, _, _, _, _, _, _, _, _, _, _, _, _, _, _, _, _, _, _, _, _, _, _, _, _, _, _, rfl, hI0⟩
      · skip
        refine wq_iconst (v := (-1)) rfl (by decide) ?_
        refine wq_iret rfl trivial ?_
        exact fin_ (P := CIA suf) (A' := (tl, tb, (rn, rb), un, ua, kn, ka)) hQ (by unfold f_told; (try dsimp only); (repeat first | rw [if_pos (by omega)] | rw [if_neg (by omega)]); try rfl) ⟨_, _, _, _, _, _, _, _, _, _, _, _, _, _, _, _, _, _, _, _, _, _, _, _, _, _, _, _, _, _, rfl, hI0⟩
theorem C_told_neg {d : Nat} {suf : mH} {A : AS} {h : mH} {Q : Option Value → mH → Prop} (hR : CIA suf A h) {v1 v2 : Int32} (hneg : v1 < 0 ∨ v2 < 0) (hQ : ∀ h', CIA suf A h' → Q (some (.int (-1))) h') : Rn mprog (d + 9) n_Z_told [.ref 0, .int v1, .int v2] h Q := by
  obtain ⟨tl, tb, ⟨rn, rb⟩, un, ua, kn, ka⟩ := A
  obtain ⟨ta, ra, qn, qa, σ, us, ρ, ks, pts, edg, nr, rt, sc, wf, ws, bsz, bop, bbg, ben, ptx, edx, nrx, rtx, scx, wfx, wsx, bsx, box, bbx, bex, rfl, hI⟩ := hR
  have hI0 := hI
  obtain ⟨hl, hta, hV0, hra, hqn, hu, hSu, hU, hk, hSk, hK, hNI, hbx⟩ := hI
  dsimp only at hl hta hV0 hra hqn hu hSu hU hk hSk hK hNI hbx
  have hE : EqR (rn, ra) (rn, rb) := ⟨rfl, hra⟩
  have hV : RV (rn, ra) := RV_congr hE hV0
  have hrn : rn ≤ 40 := hV.1
  obtain ⟨e1, e2, hnr0, hrt0, hsc0, hB, hO, hbv⟩ := hNI
  dsimp only at e1 e2 hnr0 hrt0 hsc0 hB hO hbv
  subst e1
  subst e2
  have hTV := stP hV0 (Nat.le_refl rn)
  have hpt := hTV.1.1
  have hnr : ∀ p, p < 9 → nr p < 512 := fun p hp => by rw [hnr0 p hp]; exact hTV.1.2.1.1 p hp
  obtain ⟨hn1, hq1⟩ := BL_BQ hV0 hB
  have hbz : ∀ i, i < bsz → bbg i < 2 ^ 31 ∧ ben i < 2 ^ 31 := fun i hi => hbv i (by omega)
  rcases hneg with hneg | hneg
  · skip
    refine Rn.in rfl rfl rfl ?_
    show WP _ _ _ _ 0 [.ref 0, .int v1, .int v2, .long 0] [] (zW tl ta rn ra qn qa un σ us kn ρ ks ((stR rb rn).1) ((stR rb rn).2.1) nr rt sc wf ws bsz bop bbg ben ptx edx nrx rtx scx wfx wsx bsx box bbx bex suf)
    refine wq_iload_n rfl rfl ?_
    refine wq_iconst (v := nI 1) rfl (by decide) ?_
    refine wq_ic_lt rfl (fun c2 => ?_) (fun c2 => absurd c2 (fun z => z (nI_neg hneg (by decide))))
    refine wq_iconst (v := (-1)) rfl (by decide) ?_
    refine wq_iret rfl trivial ?_
    exact hQ _ ⟨_, _, _, _, _, _, _, _, _, _, _, _, _, _, _, _, _, _, _, _, _, _, _, _, _, _, _, _, _, _, rfl, hI0⟩
  · skip
    refine Rn.in rfl rfl rfl ?_
    show WP _ _ _ _ 0 [.ref 0, .int v1, .int v2, .long 0] [] (zW tl ta rn ra qn qa un σ us kn ρ ks ((stR rb rn).1) ((stR rb rn).2.1) nr rt sc wf ws bsz bop bbg ben ptx edx nrx rtx scx wfx wsx bsx box bbx bex suf)
    refine wq_iload_n rfl rfl ?_
    refine wq_iconst (v := nI 1) rfl (by decide) ?_
    refine wq_ic_lt rfl (fun c2 => ?_) (fun c2 => ?_)
    · skip
      refine wq_iconst (v := (-1)) rfl (by decide) ?_
      refine wq_iret rfl trivial ?_
      exact hQ _ ⟨_, _, _, _, _, _, _, _, _, _, _, _, _, _, _, _, _, _, _, _, _, _, _, _, _, _, _, _, _, _, rfl, hI0⟩
    · skip
      refine wq_iload_n rfl rfl ?_
      refine wq_aload_n rfl rfl ?_
      refine wq_getfield (v := .ref 3) rfl zo_0 rfl ?_
      refine wq_virt (b := 3) (a := []) (rest := [.int v1]) rfl rfl rfl rfl rfl zo_3 ?_
      refine r_Row_size (ra := fun _ => 0) zo_3 ?_
      show WP _ _ _ _ 13 [.ref 0, .int v1, .int v2, .long 0] [.int (nI rn), .int v1] (zW tl ta rn ra qn qa un σ us kn ρ ks ((stR rb rn).1) ((stR rb rn).2.1) nr rt sc wf ws bsz bop bbg ben ptx edx nrx rtx scx wfx wsx bsx box bbx bex suf)
      refine wq_ic_gt rfl (fun c13 => ?_) (fun c13 => ?_)
      · skip
        refine wq_iconst (v := (-1)) rfl (by decide) ?_
        refine wq_iret rfl trivial ?_
        exact hQ _ ⟨_, _, _, _, _, _, _, _, _, _, _, _, _, _, _, _, _, _, _, _, _, _, _, _, _, _, _, _, _, _, rfl, hI0⟩
      · skip
        refine wq_iload_n rfl rfl ?_
        refine wq_if_lt rfl (fun c17 => ?_) (fun c17 => absurd c17 (fun z => z (nI_neg hneg (by decide))))
        refine wq_iconst (v := (-1)) rfl (by decide) ?_
        refine wq_iret rfl trivial ?_
        exact hQ _ ⟨_, _, _, _, _, _, _, _, _, _, _, _, _, _, _, _, _, _, _, _, _, _, _, _, _, _, _, _, _, _, rfl, hI0⟩
theorem Lab_congr {pts pcs : Nat} {nr nr' po : Nat → Nat} (h : ∀ p, p < 9 → nr' p = nr p) (hL : Lab pts nr po pcs) : Lab pts nr' po pcs := Lab_same hL (fun p q _ => ⟨fun z S a b => z S a (ClR_congr (fun p hp => (h p hp).symm) b), fun z S a b => z S a (ClR_congr h b)⟩)
theorem C_graph {d : Nat} {suf : mH} {A : AS} {h : mH} {Q : Option Value → mH → Prop} (hR : CIA suf A h) {k : Nat} (hk0 : k < 2 ^ 31) {w : Nat} (hw0 : w < 2 ^ 31)  (hQ : ∀ h', CIA suf (f_graph A k w).2 h' → Q (some (.int (f_graph A k w).1)) h') : Rn mprog (d + 9) n_Z_graph [.ref 0, .int (nI k), .int (nI w)] h Q := by
  obtain ⟨tl, tb, ⟨rn, rb⟩, un, ua, kn, ka⟩ := A
  obtain ⟨ta, ra, qn, qa, σ, us, ρ, ks, pts, edg, nr, rt, sc, wf, ws, bsz, bop, bbg, ben, ptx, edx, nrx, rtx, scx, wfx, wsx, bsx, box, bbx, bex, rfl, hI⟩ := hR
  have hI0 := hI
  obtain ⟨hl, hta, hV0, hra, hqn, hu, hSu, hU, hk, hSk, hK, hNI, hbx⟩ := hI
  dsimp only at hl hta hV0 hra hqn hu hSu hU hk hSk hK hNI hbx
  have hE : EqR (rn, ra) (rn, rb) := ⟨rfl, hra⟩
  have hV : RV (rn, ra) := RV_congr hE hV0
  have hrn : rn ≤ 40 := hV.1
  obtain ⟨e1, e2, hnr0, hrt0, hsc0, hB, hO, hbv⟩ := hNI
  dsimp only at e1 e2 hnr0 hrt0 hsc0 hB hO hbv
  subst e1
  subst e2
  have hTV := stP hV0 (Nat.le_refl rn)
  have hpt := hTV.1.1
  have hnr : ∀ p, p < 9 → nr p < 512 := fun p hp => by rw [hnr0 p hp]; exact hTV.1.2.1.1 p hp
  obtain ⟨hn1, hq1⟩ := BL_BQ hV0 hB
  have hbz : ∀ i, i < bsz → bbg i < 2 ^ 31 ∧ ben i < 2 ^ 31 := fun i hi => hbv i (by omega)
  refine Rn.in rfl rfl rfl ?_
  show WP _ _ _ _ 0 [.ref 0, .int (nI k), .int (nI w)] [] (zW tl ta rn ra qn qa un σ us kn ρ ks ((stR rb rn).1) ((stR rb rn).2.1) nr rt sc wf ws bsz bop bbg ben ptx edx nrx rtx scx wfx wsx bsx box bbx bex suf)
  refine wq_iload_n rfl rfl ?_
  refine wn_if_lt rfl (by omega) ?_
  refine wq_iload_n rfl rfl ?_
  refine wq_aload_n rfl rfl ?_
  refine wq_getfield (v := .ref 3) rfl zo_0 rfl ?_
  refine wq_virt (b := 3) (a := []) (rest := [.int (nI k)]) rfl rfl rfl rfl rfl zo_3 ?_
  refine r_Row_size (ra := fun _ => 0) zo_3 ?_
  show WP _ _ _ _ 12 [.ref 0, .int (nI k), .int (nI w)] [.int (nI rn), .int (nI k)] (zW tl ta rn ra qn qa un σ us kn ρ ks ((stR rb rn).1) ((stR rb rn).2.1) nr rt sc wf ws bsz bop bbg ben ptx edx nrx rtx scx wfx wsx bsx box bbx bex suf)
  refine wn_ic_gt rfl (by omega) (by omega) (fun c12 => ?_) (fun c12 => ?_)
  · skip
    refine wq_iconst (v := (-1)) rfl (by decide) ?_
    refine wq_iret rfl trivial ?_
    exact fin_ (P := CIA suf) (A' := (tl, tb, (rn, rb), un, ua, kn, ka)) hQ (by unfold f_graph; (try dsimp only); (repeat first | rw [if_pos (by omega)] | rw [if_neg (by omega)]); try rfl) ⟨_, _, _, _, _, _, _, _, _, _, _, _, _, _, _, _, _, _, _, _, _, _, _, _, _, _, _, _, _, _, rfl, hI0⟩
  · skip
    refine wq_iload_n rfl rfl ?_
    refine wn_if_lt rfl (by omega) ?_
    refine wq_iload_n rfl rfl ?_
    refine wq_iconst (v := nI 3) rfl (by decide) ?_
    refine wn_ic_le rfl (by omega) (by omega) (fun c21 => ?_) (fun c21 => ?_)
    · skip
      refine wq_aload_n rfl rfl ?_
      refine wq_getfield (v := .ref 38) rfl zo_0 rfl ?_
      refine wq_aload_n rfl rfl ?_
      refine wq_getfield (v := .ref 3) rfl zo_0 rfl ?_
      refine wq_iload_n rfl rfl ?_
      refine wq_virt (b := 38) (a := [.ref 3, .int (nI k)]) (rest := []) rfl rfl rfl rfl rfl zo_38 ?_
      rw [zv_x]
      refine r_Sto_play (rn := rn) (ra := ra) (acts := k) (by rfl) hrn (by omega) hV.2.1 (fun _ _ _ _ _ _ _ _ _ _ _ => by rfl) (fun _ _ _ _ _ _ _ _ _ _ _ => by rfl) hbx (fun _ ptx1 edx1 nrx1 rtx1 scx1 wfx1 wsx1 bsx1 box1 bbx1 bex1 bs1 hE1 hB1 hO1 hv1 => ?_) (fun z => absurd (okR_le hV.2.2 (by show k ≤ rn; omega)) z)
      rw [← zv_x]
      have est : stR ra k = stR rb k := stE hE (by show k ≤ rn; omega)
      rw [est] at hE1
      obtain ⟨x1, x2, hnx0, -⟩ := hE1
      dsimp only at x1 x2 hnx0
      subst x1
      subst x2
      have hTX := stP hV0 (k := k) (by omega)
      have hptx := hTX.1.1
      have hnx : ∀ p, p < 9 → nrx1 p < 512 := fun p hp => by rw [hnx0 p hp]; exact hTX.1.2.1.1 p hp
      show WP _ _ _ _ 38 [.ref 0, .int (nI k), .int (nI w)] [.int (nI 1)] (zW tl ta rn ra qn qa un σ us kn ρ ks ((stR rb rn).1) ((stR rb rn).2.1) nr rt sc wf ws bsz bop bbg ben ((stR rb k).1) ((stR rb k).2.1) nrx1 rtx1 scx1 wfx1 wsx1 bsx1 box1 bbx1 bex1 suf)
      refine wq_pop rfl rfl ?_
      refine wq_iload_n rfl rfl ?_
      rcases (by omega : w = 0 ∨ w = 1 ∨ w = 2 ∨ w = 3) with e40 | e40 | e40 | e40
      · refine wq_tsw (t := 68) rfl (by rw [e40]; decide) ?_
        refine wq_aload_n rfl rfl ?_
        refine wq_getfield (v := .ref 38) rfl zo_0 rfl ?_
        refine wq_getfield (v := .ref 39) rfl zo_38 rfl ?_
        refine wq_virt (b := 39) (a := []) (rest := []) rfl rfl rfl rfl rfl zo_39 ?_
        rw [zv_nx]
        refine r_Net_points (by rfl) ?_
        rw [← zv_nx]
        show WP _ _ _ _ 78 [.ref 0, .int (nI k), .int (nI w)] [.int (nI ((stR rb k).1))] (zW tl ta rn ra qn qa un σ us kn ρ ks ((stR rb rn).1) ((stR rb rn).2.1) nr rt sc wf ws bsz bop bbg ben ((stR rb k).1) ((stR rb k).2.1) nrx1 rtx1 scx1 wfx1 wsx1 bsx1 box1 bbx1 bex1 suf)
        refine wq_iret rfl trivial ?_
        exact fin_ (P := CIA suf) (A' := (tl, tb, (rn, rb), un, ua, kn, ka)) hQ (by unfold f_graph; (try dsimp only); (repeat first | rw [if_pos (by omega)] | rw [if_neg (by omega)]); try rfl) ⟨_, _, _, _, _, _, _, _, _, _, _, _, _, _, _, _, _, _, _, _, _, _, _, _, _, _, _, _, _, _, rfl, (CI_x hI0 hqn hv1)⟩
      · refine wq_tsw (t := 79) rfl (by rw [e40]; decide) ?_
        refine wq_aload_n rfl rfl ?_
        refine wq_getfield (v := .ref 38) rfl zo_0 rfl ?_
        refine wq_getfield (v := .ref 39) rfl zo_38 rfl ?_
        refine wq_virt (b := 39) (a := []) (rest := []) rfl rfl rfl rfl rfl zo_39 ?_
        rw [zv_nx]
        refine r_Net_edges (by rfl) ?_
        rw [← zv_nx]
        show WP _ _ _ _ 89 [.ref 0, .int (nI k), .int (nI w)] [.int (nI ((stR rb k).2.1))] (zW tl ta rn ra qn qa un σ us kn ρ ks ((stR rb rn).1) ((stR rb rn).2.1) nr rt sc wf ws bsz bop bbg ben ((stR rb k).1) ((stR rb k).2.1) nrx1 rtx1 scx1 wfx1 wsx1 bsx1 box1 bbx1 bex1 suf)
        refine wq_iret rfl trivial ?_
        exact fin_ (P := CIA suf) (A' := (tl, tb, (rn, rb), un, ua, kn, ka)) hQ (by unfold f_graph; (try dsimp only); (repeat first | rw [if_pos (by omega)] | rw [if_neg (by omega)]); try rfl) ⟨_, _, _, _, _, _, _, _, _, _, _, _, _, _, _, _, _, _, _, _, _, _, _, _, _, _, _, _, _, _, rfl, (CI_x hI0 hqn hv1)⟩
      · refine wq_tsw (t := 90) rfl (by rw [e40]; decide) ?_
        refine wq_aload_n rfl rfl ?_
        refine wq_getfield (v := .ref 38) rfl zo_0 rfl ?_
        refine wq_getfield (v := .ref 39) rfl zo_38 rfl ?_
        refine wq_virt (b := 39) (a := []) (rest := []) rfl rfl rfl rfl rfl zo_39 ?_
        obtain ⟨po9, pcs9, hL9, -⟩ := hTX.2.2.1
        rw [zv_nx]
        refine r_Net_pieces (by rfl) hptx hnx (Lab_congr hnx0 hL9) ?_
        rw [npT_eq hTX.1.2.1 hL9, ← zv_nx]
        show WP _ _ _ _ 100 [.ref 0, .int (nI k), .int (nI w)] [.int (nI (npT (stR rb k)))] (zW tl ta rn ra qn qa un σ us kn ρ ks ((stR rb rn).1) ((stR rb rn).2.1) nr rt sc wf ws bsz bop bbg ben ((stR rb k).1) ((stR rb k).2.1) nrx1 rtx1 scx1 wfx1 wsx1 bsx1 box1 bbx1 bex1 suf)
        refine wq_iret rfl trivial ?_
        exact fin_ (P := CIA suf) (A' := (tl, tb, (rn, rb), un, ua, kn, ka)) hQ (by unfold f_graph; (try dsimp only); (repeat first | rw [if_pos (by omega)] | rw [if_neg (by omega)]); try rfl) ⟨_, _, _, _, _, _, _, _, _, _, _, _, _, _, _, _, _, _, _, _, _, _, _, _, _, _, _, _, _, _, rfl, (CI_x hI0 hqn hv1)⟩
      · refine wq_tsw (t := 101) rfl (by rw [e40]; decide) ?_
        refine wq_aload_n rfl rfl ?_
        refine wq_getfield (v := .ref 38) rfl zo_0 rfl ?_
        refine wq_getfield (v := .ref 39) rfl zo_38 rfl ?_
        refine wq_virt (b := 39) (a := []) (rest := []) rfl rfl rfl rfl rfl zo_39 ?_
        obtain ⟨po9, pcs9, hL9, -⟩ := hTX.2.2.1
        rw [zv_nx]
        refine r_Net_loops (by rfl) hptx hnx (Lab_congr hnx0 hL9) ?_
        rw [npT_eq hTX.1.2.1 hL9, ← zv_nx]
        show WP _ _ _ _ 111 [.ref 0, .int (nI k), .int (nI w)] [.int (nI (stR rb k).2.1 - nI (popc (stR rb k).1 9) + nI (npT (stR rb k)))] (zW tl ta rn ra qn qa un σ us kn ρ ks ((stR rb rn).1) ((stR rb rn).2.1) nr rt sc wf ws bsz bop bbg ben ((stR rb k).1) ((stR rb k).2.1) nrx1 rtx1 scx1 wfx1 wsx1 bsx1 box1 bbx1 bex1 suf)
        refine wq_iret rfl trivial ?_
        exact fin_ (P := CIA suf) (A' := (tl, tb, (rn, rb), un, ua, kn, ka)) hQ (by unfold f_graph; (try dsimp only); (repeat first | rw [if_pos (by omega)] | rw [if_neg (by omega)]); try rfl) ⟨_, _, _, _, _, _, _, _, _, _, _, _, _, _, _, _, _, _, _, _, _, _, _, _, _, _, _, _, _, _, rfl, (CI_x hI0 hqn hv1)⟩
    · skip
      refine wq_iconst (v := (-1)) rfl (by decide) ?_
      refine wq_iret rfl trivial ?_
      exact fin_ (P := CIA suf) (A' := (tl, tb, (rn, rb), un, ua, kn, ka)) hQ (by unfold f_graph; (try dsimp only); (repeat first | rw [if_pos (by omega)] | rw [if_neg (by omega)]); try rfl) ⟨_, _, _, _, _, _, _, _, _, _, _, _, _, _, _, _, _, _, _, _, _, _, _, _, _, _, _, _, _, _, rfl, hI0⟩
theorem C_graph_neg {d : Nat} {suf : mH} {A : AS} {h : mH} {Q : Option Value → mH → Prop} (hR : CIA suf A h) {v1 v2 : Int32} (hneg : v1 < 0 ∨ v2 < 0) (hQ : ∀ h', CIA suf A h' → Q (some (.int (-1))) h') : Rn mprog (d + 9) n_Z_graph [.ref 0, .int v1, .int v2] h Q := by
  obtain ⟨tl, tb, ⟨rn, rb⟩, un, ua, kn, ka⟩ := A
  obtain ⟨ta, ra, qn, qa, σ, us, ρ, ks, pts, edg, nr, rt, sc, wf, ws, bsz, bop, bbg, ben, ptx, edx, nrx, rtx, scx, wfx, wsx, bsx, box, bbx, bex, rfl, hI⟩ := hR
  have hI0 := hI
  obtain ⟨hl, hta, hV0, hra, hqn, hu, hSu, hU, hk, hSk, hK, hNI, hbx⟩ := hI
  dsimp only at hl hta hV0 hra hqn hu hSu hU hk hSk hK hNI hbx
  have hE : EqR (rn, ra) (rn, rb) := ⟨rfl, hra⟩
  have hV : RV (rn, ra) := RV_congr hE hV0
  have hrn : rn ≤ 40 := hV.1
  obtain ⟨e1, e2, hnr0, hrt0, hsc0, hB, hO, hbv⟩ := hNI
  dsimp only at e1 e2 hnr0 hrt0 hsc0 hB hO hbv
  subst e1
  subst e2
  have hTV := stP hV0 (Nat.le_refl rn)
  have hpt := hTV.1.1
  have hnr : ∀ p, p < 9 → nr p < 512 := fun p hp => by rw [hnr0 p hp]; exact hTV.1.2.1.1 p hp
  obtain ⟨hn1, hq1⟩ := BL_BQ hV0 hB
  have hbz : ∀ i, i < bsz → bbg i < 2 ^ 31 ∧ ben i < 2 ^ 31 := fun i hi => hbv i (by omega)
  rcases hneg with hneg | hneg
  · skip
    refine Rn.in rfl rfl rfl ?_
    show WP _ _ _ _ 0 [.ref 0, .int v1, .int v2] [] (zW tl ta rn ra qn qa un σ us kn ρ ks ((stR rb rn).1) ((stR rb rn).2.1) nr rt sc wf ws bsz bop bbg ben ptx edx nrx rtx scx wfx wsx bsx box bbx bex suf)
    refine wq_iload_n rfl rfl ?_
    refine wq_if_lt rfl (fun c1 => ?_) (fun c1 => absurd c1 (fun z => z hneg))
    refine wq_iconst (v := (-1)) rfl (by decide) ?_
    refine wq_iret rfl trivial ?_
    exact hQ _ ⟨_, _, _, _, _, _, _, _, _, _, _, _, _, _, _, _, _, _, _, _, _, _, _, _, _, _, _, _, _, _, rfl, hI0⟩
  · skip
    refine Rn.in rfl rfl rfl ?_
    show WP _ _ _ _ 0 [.ref 0, .int v1, .int v2] [] (zW tl ta rn ra qn qa un σ us kn ρ ks ((stR rb rn).1) ((stR rb rn).2.1) nr rt sc wf ws bsz bop bbg ben ptx edx nrx rtx scx wfx wsx bsx box bbx bex suf)
    refine wq_iload_n rfl rfl ?_
    refine wq_if_lt rfl (fun c1 => ?_) (fun c1 => ?_)
    · skip
      refine wq_iconst (v := (-1)) rfl (by decide) ?_
      refine wq_iret rfl trivial ?_
      exact hQ _ ⟨_, _, _, _, _, _, _, _, _, _, _, _, _, _, _, _, _, _, _, _, _, _, _, _, _, _, _, _, _, _, rfl, hI0⟩
    · skip
      refine wq_iload_n rfl rfl ?_
      refine wq_aload_n rfl rfl ?_
      refine wq_getfield (v := .ref 3) rfl zo_0 rfl ?_
      refine wq_virt (b := 3) (a := []) (rest := [.int v1]) rfl rfl rfl rfl rfl zo_3 ?_
      refine r_Row_size (ra := fun _ => 0) zo_3 ?_
      show WP _ _ _ _ 12 [.ref 0, .int v1, .int v2] [.int (nI rn), .int v1] (zW tl ta rn ra qn qa un σ us kn ρ ks ((stR rb rn).1) ((stR rb rn).2.1) nr rt sc wf ws bsz bop bbg ben ptx edx nrx rtx scx wfx wsx bsx box bbx bex suf)
      refine wq_ic_gt rfl (fun c12 => ?_) (fun c12 => ?_)
      · skip
        refine wq_iconst (v := (-1)) rfl (by decide) ?_
        refine wq_iret rfl trivial ?_
        exact hQ _ ⟨_, _, _, _, _, _, _, _, _, _, _, _, _, _, _, _, _, _, _, _, _, _, _, _, _, _, _, _, _, _, rfl, hI0⟩
      · skip
        refine wq_iload_n rfl rfl ?_
        refine wq_if_lt rfl (fun c16 => ?_) (fun c16 => absurd c16 (fun z => z hneg))
        refine wq_iconst (v := (-1)) rfl (by decide) ?_
        refine wq_iret rfl trivial ?_
        exact hQ _ ⟨_, _, _, _, _, _, _, _, _, _, _, _, _, _, _, _, _, _, _, _, _, _, _, _, _, _, _, _, _, _, rfl, hI0⟩
theorem C_piece {d : Nat} {suf : mH} {A : AS} {h : mH} {Q : Option Value → mH → Prop} (hR : CIA suf A h) {k : Nat} (hk0 : k < 2 ^ 31) {p : Nat} (hp0 : p < 2 ^ 31)  (hQ : ∀ h', CIA suf (f_piece A k p).2 h' → Q (some (.int (f_piece A k p).1)) h') : Rn mprog (d + 9) n_Z_piece [.ref 0, .int (nI k), .int (nI p)] h Q := by
  obtain ⟨tl, tb, ⟨rn, rb⟩, un, ua, kn, ka⟩ := A
  obtain ⟨ta, ra, qn, qa, σ, us, ρ, ks, pts, edg, nr, rt, sc, wf, ws, bsz, bop, bbg, ben, ptx, edx, nrx, rtx, scx, wfx, wsx, bsx, box, bbx, bex, rfl, hI⟩ := hR
  have hI0 := hI
  obtain ⟨hl, hta, hV0, hra, hqn, hu, hSu, hU, hk, hSk, hK, hNI, hbx⟩ := hI
  dsimp only at hl hta hV0 hra hqn hu hSu hU hk hSk hK hNI hbx
  have hE : EqR (rn, ra) (rn, rb) := ⟨rfl, hra⟩
  have hV : RV (rn, ra) := RV_congr hE hV0
  have hrn : rn ≤ 40 := hV.1
  obtain ⟨e1, e2, hnr0, hrt0, hsc0, hB, hO, hbv⟩ := hNI
  dsimp only at e1 e2 hnr0 hrt0 hsc0 hB hO hbv
  subst e1
  subst e2
  have hTV := stP hV0 (Nat.le_refl rn)
  have hpt := hTV.1.1
  have hnr : ∀ p, p < 9 → nr p < 512 := fun p hp => by rw [hnr0 p hp]; exact hTV.1.2.1.1 p hp
  obtain ⟨hn1, hq1⟩ := BL_BQ hV0 hB
  have hbz : ∀ i, i < bsz → bbg i < 2 ^ 31 ∧ ben i < 2 ^ 31 := fun i hi => hbv i (by omega)
  refine Rn.in rfl rfl rfl ?_
  show WP _ _ _ _ 0 [.ref 0, .int (nI k), .int (nI p)] [] (zW tl ta rn ra qn qa un σ us kn ρ ks ((stR rb rn).1) ((stR rb rn).2.1) nr rt sc wf ws bsz bop bbg ben ptx edx nrx rtx scx wfx wsx bsx box bbx bex suf)
  refine wq_iload_n rfl rfl ?_
  refine wn_if_lt rfl (by omega) ?_
  refine wq_iload_n rfl rfl ?_
  refine wq_aload_n rfl rfl ?_
  refine wq_getfield (v := .ref 3) rfl zo_0 rfl ?_
  refine wq_virt (b := 3) (a := []) (rest := [.int (nI k)]) rfl rfl rfl rfl rfl zo_3 ?_
  refine r_Row_size (ra := fun _ => 0) zo_3 ?_
  show WP _ _ _ _ 12 [.ref 0, .int (nI k), .int (nI p)] [.int (nI rn), .int (nI k)] (zW tl ta rn ra qn qa un σ us kn ρ ks ((stR rb rn).1) ((stR rb rn).2.1) nr rt sc wf ws bsz bop bbg ben ptx edx nrx rtx scx wfx wsx bsx box bbx bex suf)
  refine wn_ic_gt rfl (by omega) (by omega) (fun c12 => ?_) (fun c12 => ?_)
  · skip
    refine wq_iconst (v := (-1)) rfl (by decide) ?_
    refine wq_iret rfl trivial ?_
    exact fin_ (P := CIA suf) (A' := (tl, tb, (rn, rb), un, ua, kn, ka)) hQ (by unfold f_piece; (try dsimp only); (repeat first | rw [if_pos (by omega)] | rw [if_neg (by omega)]); try rfl) ⟨_, _, _, _, _, _, _, _, _, _, _, _, _, _, _, _, _, _, _, _, _, _, _, _, _, _, _, _, _, _, rfl, hI0⟩
  · skip
    refine wq_iload_n rfl rfl ?_
    refine wq_stat (a := [.int (nI p)]) (rest := []) rfl rfl rfl rfl rfl ?_
    refine r_Z_isPtN (by omega) (fun c16 => ?_) (fun c16 => ?_)
    · skip
      show WP _ _ _ _ 19 [.ref 0, .int (nI k), .int (nI p)] [.int (nI 1)] (zW tl ta rn ra qn qa un σ us kn ρ ks ((stR rb rn).1) ((stR rb rn).2.1) nr rt sc wf ws bsz bop bbg ben ptx edx nrx rtx scx wfx wsx bsx box bbx bex suf)
      refine wq_if_ne rfl (fun _ => ?_) (fun c => absurd c (by decide))
      refine wq_aload_n rfl rfl ?_
      refine wq_getfield (v := .ref 38) rfl zo_0 rfl ?_
      refine wq_aload_n rfl rfl ?_
      refine wq_getfield (v := .ref 3) rfl zo_0 rfl ?_
      refine wq_iload_n rfl rfl ?_
      refine wq_virt (b := 38) (a := [.ref 3, .int (nI k)]) (rest := []) rfl rfl rfl rfl rfl zo_38 ?_
      rw [zv_x]
      refine r_Sto_play (rn := rn) (ra := ra) (acts := k) (by rfl) hrn (by omega) hV.2.1 (fun _ _ _ _ _ _ _ _ _ _ _ => by rfl) (fun _ _ _ _ _ _ _ _ _ _ _ => by rfl) hbx (fun _ ptx1 edx1 nrx1 rtx1 scx1 wfx1 wsx1 bsx1 box1 bbx1 bex1 bs1 hE1 hB1 hO1 hv1 => ?_) (fun z => absurd (okR_le hV.2.2 (by show k ≤ rn; omega)) z)
      rw [← zv_x]
      have est : stR ra k = stR rb k := stE hE (by show k ≤ rn; omega)
      rw [est] at hE1
      obtain ⟨x1, x2, hnx0, -⟩ := hE1
      dsimp only at x1 x2 hnx0
      subst x1
      subst x2
      have hTX := stP hV0 (k := k) (by omega)
      have hptx := hTX.1.1
      have hnx : ∀ p, p < 9 → nrx1 p < 512 := fun p hp => by rw [hnx0 p hp]; exact hTX.1.2.1.1 p hp
      show WP _ _ _ _ 36 [.ref 0, .int (nI k), .int (nI p)] [.int (nI 1)] (zW tl ta rn ra qn qa un σ us kn ρ ks ((stR rb rn).1) ((stR rb rn).2.1) nr rt sc wf ws bsz bop bbg ben ((stR rb k).1) ((stR rb k).2.1) nrx1 rtx1 scx1 wfx1 wsx1 bsx1 box1 bbx1 bex1 suf)
      refine wq_pop rfl rfl ?_
      refine wq_aload_n rfl rfl ?_
      refine wq_getfield (v := .ref 38) rfl zo_0 rfl ?_
      refine wq_getfield (v := .ref 39) rfl zo_38 rfl ?_
      refine wq_iload_n rfl rfl ?_
      refine wq_virt (b := 39) (a := [.int (nI p)]) (rest := []) rfl rfl rfl rfl rfl zo_39 ?_
      rw [zv_nx]
      refine r_Net_has (by rfl) (by omega) hptx (fun c45 => ?_) (fun c45 => ?_)
      all_goals rw [← zv_nx]
      · skip
        show WP _ _ _ _ 48 [.ref 0, .int (nI k), .int (nI p)] [.int (nI 1)] (zW tl ta rn ra qn qa un σ us kn ρ ks ((stR rb rn).1) ((stR rb rn).2.1) nr rt sc wf ws bsz bop bbg ben ((stR rb k).1) ((stR rb k).2.1) nrx1 rtx1 scx1 wfx1 wsx1 bsx1 box1 bbx1 bex1 suf)
        refine wq_if_ne rfl (fun _ => ?_) (fun c => absurd c (by decide))
        refine wq_aload_n rfl rfl ?_
        refine wq_getfield (v := .ref 38) rfl zo_0 rfl ?_
        refine wq_getfield (v := .ref 39) rfl zo_38 rfl ?_
        refine wq_iload_n rfl rfl ?_
        refine wq_virt (b := 39) (a := [.int (nI p)]) (rest := []) rfl rfl rfl rfl rfl zo_39 ?_
        rw [zv_nx]
        refine r_Net_pieceOf (by rfl) (by omega) hnx (fun R hR => ?_) hptx c45
        rw [← zv_nx]
        have eR : R = pOf (stR rb k).2.2.1 p := by rw [IsR_pOf hR]; exact pOf_congr hnx0 p
        have hR5 := hR.1
        have hR0 : R ≠ 0 := fun z => by have q := hR.2.1; rw [z, Nat.zero_testBit] at q; exact absurd q (by decide)
        show WP _ _ _ _ 65 [.ref 0, .int (nI k), .int (nI p)] [.int (nI R)] (zW tl ta rn ra qn qa un σ us kn ρ ks ((stR rb rn).1) ((stR rb rn).2.1) nr rt sc wf ws bsz bop bbg ben ((stR rb k).1) ((stR rb k).2.1) nrx1 rtx1 scx1 wfx1 wsx1 bsx1 box1 bbx1 bex1 suf)
        refine wq_stat (a := [.int (nI R)]) (rest := []) rfl rfl rfl rfl rfl ?_
        refine r_Z_lowestOf hR5 hR0 ?_
        show WP _ _ _ _ 68 [.ref 0, .int (nI k), .int (nI p)] [.int (nI (low9 R))] (zW tl ta rn ra qn qa un σ us kn ρ ks ((stR rb rn).1) ((stR rb rn).2.1) nr rt sc wf ws bsz bop bbg ben ((stR rb k).1) ((stR rb k).2.1) nrx1 rtx1 scx1 wfx1 wsx1 bsx1 box1 bbx1 bex1 suf)
        refine wq_iret rfl trivial ?_
        rw [eR]
        exact fin_ (P := CIA suf) (A' := (tl, tb, (rn, rb), un, ua, kn, ka)) hQ (by unfold f_piece; (try dsimp only); (repeat first | rw [if_pos (by omega)] | rw [if_neg (by omega)] | rw [if_pos c45] | rw [if_neg (by rw [c45]; decide)]); try rfl) ⟨_, _, _, _, _, _, _, _, _, _, _, _, _, _, _, _, _, _, _, _, _, _, _, _, _, _, _, _, _, _, rfl, (CI_x hI0 hqn hv1)⟩
      · skip
        show WP _ _ _ _ 48 [.ref 0, .int (nI k), .int (nI p)] [.int (nI 0)] (zW tl ta rn ra qn qa un σ us kn ρ ks ((stR rb rn).1) ((stR rb rn).2.1) nr rt sc wf ws bsz bop bbg ben ((stR rb k).1) ((stR rb k).2.1) nrx1 rtx1 scx1 wfx1 wsx1 bsx1 box1 bbx1 bex1 suf)
        refine wq_if_ne rfl (fun c => absurd c (by decide)) (fun _ => ?_)
        refine wq_bipush (v := (-4)) rfl (by decide) ?_
        refine wq_iret rfl trivial ?_
        exact fin_ (P := CIA suf) (A' := (tl, tb, (rn, rb), un, ua, kn, ka)) hQ (by unfold f_piece; (try dsimp only); (repeat first | rw [if_pos (by omega)] | rw [if_neg (by omega)] | rw [if_pos c45] | rw [if_neg (by rw [c45]; decide)]); try rfl) ⟨_, _, _, _, _, _, _, _, _, _, _, _, _, _, _, _, _, _, _, _, _, _, _, _, _, _, _, _, _, _, rfl, (CI_x hI0 hqn hv1)⟩
    · skip
      show WP _ _ _ _ 19 [.ref 0, .int (nI k), .int (nI p)] [.int (nI 0)] (zW tl ta rn ra qn qa un σ us kn ρ ks ((stR rb rn).1) ((stR rb rn).2.1) nr rt sc wf ws bsz bop bbg ben ptx edx nrx rtx scx wfx wsx bsx box bbx bex suf)
      refine wq_if_ne rfl (fun c => absurd c (by decide)) (fun _ => ?_)
      refine wq_iconst (v := (-1)) rfl (by decide) ?_
      refine wq_iret rfl trivial ?_
      exact fin_ (P := CIA suf) (A' := (tl, tb, (rn, rb), un, ua, kn, ka)) hQ (by unfold f_piece; (try dsimp only); (repeat first | rw [if_pos (by omega)] | rw [if_neg (by omega)]); try rfl) ⟨_, _, _, _, _, _, _, _, _, _, _, _, _, _, _, _, _, _, _, _, _, _, _, _, _, _, _, _, _, _, rfl, hI0⟩
theorem C_piece_neg {d : Nat} {suf : mH} {A : AS} {h : mH} {Q : Option Value → mH → Prop} (hR : CIA suf A h) {v1 v2 : Int32} (hneg : v1 < 0 ∨ v2 < 0) (hQ : ∀ h', CIA suf A h' → Q (some (.int (-1))) h') : Rn mprog (d + 9) n_Z_piece [.ref 0, .int v1, .int v2] h Q := by
  obtain ⟨tl, tb, ⟨rn, rb⟩, un, ua, kn, ka⟩ := A
  obtain ⟨ta, ra, qn, qa, σ, us, ρ, ks, pts, edg, nr, rt, sc, wf, ws, bsz, bop, bbg, ben, ptx, edx, nrx, rtx, scx, wfx, wsx, bsx, box, bbx, bex, rfl, hI⟩ := hR
  have hI0 := hI
  obtain ⟨hl, hta, hV0, hra, hqn, hu, hSu, hU, hk, hSk, hK, hNI, hbx⟩ := hI
  dsimp only at hl hta hV0 hra hqn hu hSu hU hk hSk hK hNI hbx
  have hE : EqR (rn, ra) (rn, rb) := ⟨rfl, hra⟩
  have hV : RV (rn, ra) := RV_congr hE hV0
  have hrn : rn ≤ 40 := hV.1
  obtain ⟨e1, e2, hnr0, hrt0, hsc0, hB, hO, hbv⟩ := hNI
  dsimp only at e1 e2 hnr0 hrt0 hsc0 hB hO hbv
  subst e1
  subst e2
  have hTV := stP hV0 (Nat.le_refl rn)
  have hpt := hTV.1.1
  have hnr : ∀ p, p < 9 → nr p < 512 := fun p hp => by rw [hnr0 p hp]; exact hTV.1.2.1.1 p hp
  obtain ⟨hn1, hq1⟩ := BL_BQ hV0 hB
  have hbz : ∀ i, i < bsz → bbg i < 2 ^ 31 ∧ ben i < 2 ^ 31 := fun i hi => hbv i (by omega)
  rcases hneg with hneg | hneg
  · skip
    refine Rn.in rfl rfl rfl ?_
    show WP _ _ _ _ 0 [.ref 0, .int v1, .int v2] [] (zW tl ta rn ra qn qa un σ us kn ρ ks ((stR rb rn).1) ((stR rb rn).2.1) nr rt sc wf ws bsz bop bbg ben ptx edx nrx rtx scx wfx wsx bsx box bbx bex suf)
    refine wq_iload_n rfl rfl ?_
    refine wq_if_lt rfl (fun c1 => ?_) (fun c1 => absurd c1 (fun z => z hneg))
    refine wq_iconst (v := (-1)) rfl (by decide) ?_
    refine wq_iret rfl trivial ?_
    exact hQ _ ⟨_, _, _, _, _, _, _, _, _, _, _, _, _, _, _, _, _, _, _, _, _, _, _, _, _, _, _, _, _, _, rfl, hI0⟩
  · skip
    refine Rn.in rfl rfl rfl ?_
    show WP _ _ _ _ 0 [.ref 0, .int v1, .int v2] [] (zW tl ta rn ra qn qa un σ us kn ρ ks ((stR rb rn).1) ((stR rb rn).2.1) nr rt sc wf ws bsz bop bbg ben ptx edx nrx rtx scx wfx wsx bsx box bbx bex suf)
    refine wq_iload_n rfl rfl ?_
    refine wq_if_lt rfl (fun c1 => ?_) (fun c1 => ?_)
    · skip
      refine wq_iconst (v := (-1)) rfl (by decide) ?_
      refine wq_iret rfl trivial ?_
      exact hQ _ ⟨_, _, _, _, _, _, _, _, _, _, _, _, _, _, _, _, _, _, _, _, _, _, _, _, _, _, _, _, _, _, rfl, hI0⟩
    · skip
      refine wq_iload_n rfl rfl ?_
      refine wq_aload_n rfl rfl ?_
      refine wq_getfield (v := .ref 3) rfl zo_0 rfl ?_
      refine wq_virt (b := 3) (a := []) (rest := [.int v1]) rfl rfl rfl rfl rfl zo_3 ?_
      refine r_Row_size (ra := fun _ => 0) zo_3 ?_
      show WP _ _ _ _ 12 [.ref 0, .int v1, .int v2] [.int (nI rn), .int v1] (zW tl ta rn ra qn qa un σ us kn ρ ks ((stR rb rn).1) ((stR rb rn).2.1) nr rt sc wf ws bsz bop bbg ben ptx edx nrx rtx scx wfx wsx bsx box bbx bex suf)
      refine wq_ic_gt rfl (fun c12 => ?_) (fun c12 => ?_)
      · skip
        refine wq_iconst (v := (-1)) rfl (by decide) ?_
        refine wq_iret rfl trivial ?_
        exact hQ _ ⟨_, _, _, _, _, _, _, _, _, _, _, _, _, _, _, _, _, _, _, _, _, _, _, _, _, _, _, _, _, _, rfl, hI0⟩
      · skip
        refine wq_iload_n rfl rfl ?_
        refine wq_stat (a := [.int v2]) (rest := []) rfl rfl rfl rfl rfl ?_
        refine r_Z_isPoint (fun c16 => absurd c16 (fun z => nI_ngl (k := 0) hneg (by decide) z.1)) (fun c16 => ?_)
        show WP _ _ _ _ 19 [.ref 0, .int v1, .int v2] [.int (nI 0)] (zW tl ta rn ra qn qa un σ us kn ρ ks ((stR rb rn).1) ((stR rb rn).2.1) nr rt sc wf ws bsz bop bbg ben ptx edx nrx rtx scx wfx wsx bsx box bbx bex suf)
        refine wq_if_ne rfl (fun c => absurd c (by decide)) (fun _ => ?_)
        refine wq_iconst (v := (-1)) rfl (by decide) ?_
        refine wq_iret rfl trivial ?_
        exact hQ _ ⟨_, _, _, _, _, _, _, _, _, _, _, _, _, _, _, _, _, _, _, _, _, _, _, _, _, _, _, _, _, _, rfl, hI0⟩
theorem C_root {d : Nat} {suf : mH} {A : AS} {h : mH} {Q : Option Value → mH → Prop} (hR : CIA suf A h) {p : Nat} (hp0 : p < 2 ^ 31)  (hQ : ∀ h', CIA suf (f_root A p).2 h' → Q (some (.int (f_root A p).1)) h') : Rn mprog (d + 9) n_Z_root [.ref 0, .int (nI p)] h Q := by
  obtain ⟨tl, tb, ⟨rn, rb⟩, un, ua, kn, ka⟩ := A
  obtain ⟨ta, ra, qn, qa, σ, us, ρ, ks, pts, edg, nr, rt, sc, wf, ws, bsz, bop, bbg, ben, ptx, edx, nrx, rtx, scx, wfx, wsx, bsx, box, bbx, bex, rfl, hI⟩ := hR
  have hI0 := hI
  obtain ⟨hl, hta, hV0, hra, hqn, hu, hSu, hU, hk, hSk, hK, hNI, hbx⟩ := hI
  dsimp only at hl hta hV0 hra hqn hu hSu hU hk hSk hK hNI hbx
  have hE : EqR (rn, ra) (rn, rb) := ⟨rfl, hra⟩
  have hV : RV (rn, ra) := RV_congr hE hV0
  have hrn : rn ≤ 40 := hV.1
  obtain ⟨e1, e2, hnr0, hrt0, hsc0, hB, hO, hbv⟩ := hNI
  dsimp only at e1 e2 hnr0 hrt0 hsc0 hB hO hbv
  subst e1
  subst e2
  have hTV := stP hV0 (Nat.le_refl rn)
  have hpt := hTV.1.1
  have hnr : ∀ p, p < 9 → nr p < 512 := fun p hp => by rw [hnr0 p hp]; exact hTV.1.2.1.1 p hp
  obtain ⟨hn1, hq1⟩ := BL_BQ hV0 hB
  have hbz : ∀ i, i < bsz → bbg i < 2 ^ 31 ∧ ben i < 2 ^ 31 := fun i hi => hbv i (by omega)
  refine Rn.in rfl rfl rfl ?_
  show WP _ _ _ _ 0 [.ref 0, .int (nI p)] [] (zW tl ta rn ra qn qa un σ us kn ρ ks ((stR rb rn).1) ((stR rb rn).2.1) nr rt sc wf ws bsz bop bbg ben ptx edx nrx rtx scx wfx wsx bsx box bbx bex suf)
  refine wq_iload_n rfl rfl ?_
  refine wq_stat (a := [.int (nI p)]) (rest := []) rfl rfl rfl rfl rfl ?_
  refine r_Z_isPtN (by omega) (fun c1 => ?_) (fun c1 => ?_)
  · skip
    show WP _ _ _ _ 4 [.ref 0, .int (nI p)] [.int (nI 1)] (zW tl ta rn ra qn qa un σ us kn ρ ks ((stR rb rn).1) ((stR rb rn).2.1) nr rt sc wf ws bsz bop bbg ben ptx edx nrx rtx scx wfx wsx bsx box bbx bex suf)
    refine wq_if_ne rfl (fun _ => ?_) (fun c => absurd c (by decide))
    refine wq_aload_n rfl rfl ?_
    refine wq_getfield (v := .ref 27) rfl zo_0 rfl ?_
    refine wq_getfield (v := .ref 28) rfl zo_27 rfl ?_
    refine wq_iload_n rfl rfl ?_
    refine wq_virt (b := 28) (a := [.int (nI p)]) (rest := []) rfl rfl rfl rfl rfl zo_28 ?_
    rw [zv_ns]
    refine r_Net_has (by rfl) (by omega) hpt (fun c17 => ?_) (fun c17 => ?_)
    all_goals rw [← zv_ns]
    · skip
      show WP _ _ _ _ 20 [.ref 0, .int (nI p)] [.int (nI 1)] (zW tl ta rn ra qn qa un σ us kn ρ ks ((stR rb rn).1) ((stR rb rn).2.1) nr rt sc wf ws bsz bop bbg ben ptx edx nrx rtx scx wfx wsx bsx box bbx bex suf)
      refine wq_if_eq rfl (fun c => absurd c (by decide)) (fun _ => ?_)
      refine wq_aload_n rfl rfl ?_
      refine wq_getfield (v := .ref 27) rfl zo_0 rfl ?_
      refine wq_getfield (v := .ref 30) rfl zo_27 rfl ?_
      refine wq_iload_n rfl rfl ?_
      refine wq_virt (b := 30) (a := [.int (nI p)]) (rest := []) rfl rfl rfl rfl rfl zo_30 ?_
      rw [zv_ks]
      refine r_Kin_rootOf (by rfl) (by omega) ?_
      rw [← zv_ks]
      show WP _ _ _ _ 34 [.ref 0, .int (nI p)] [.int (nI (rt p))] (zW tl ta rn ra qn qa un σ us kn ρ ks ((stR rb rn).1) ((stR rb rn).2.1) nr rt sc wf ws bsz bop bbg ben ptx edx nrx rtx scx wfx wsx bsx box bbx bex suf)
      refine wq_goto rfl ?_
      refine wq_iret rfl trivial ?_
      rw [hrt0 p (by omega)]
      exact fin_ (P := CIA suf) (A' := (tl, tb, (rn, rb), un, ua, kn, ka)) hQ (by unfold f_root; (try dsimp only); rw [if_neg (by omega), if_pos (show (sT (tl, tb, (rn, rb), un, ua, kn, ka)).1.testBit p = true from c17)]; rfl) ⟨_, _, _, _, _, _, _, _, _, _, _, _, _, _, _, _, _, _, _, _, _, _, _, _, _, _, _, _, _, _, rfl, hI0⟩
    · skip
      show WP _ _ _ _ 20 [.ref 0, .int (nI p)] [.int (nI 0)] (zW tl ta rn ra qn qa un σ us kn ρ ks ((stR rb rn).1) ((stR rb rn).2.1) nr rt sc wf ws bsz bop bbg ben ptx edx nrx rtx scx wfx wsx bsx box bbx bex suf)
      refine wq_if_eq rfl (fun _ => ?_) (fun c => absurd c (by decide))
      refine wq_bipush (v := (-4)) rfl (by decide) ?_
      refine wq_iret rfl trivial ?_
      exact fin_ (P := CIA suf) (A' := (tl, tb, (rn, rb), un, ua, kn, ka)) hQ (by unfold f_root; (try dsimp only); rw [if_neg (by omega), if_neg (by show ¬ (stR rb rn).1.testBit p = true; rw [c17]; decide)]) ⟨_, _, _, _, _, _, _, _, _, _, _, _, _, _, _, _, _, _, _, _, _, _, _, _, _, _, _, _, _, _, rfl, hI0⟩
  · skip
    show WP _ _ _ _ 4 [.ref 0, .int (nI p)] [.int (nI 0)] (zW tl ta rn ra qn qa un σ us kn ρ ks ((stR rb rn).1) ((stR rb rn).2.1) nr rt sc wf ws bsz bop bbg ben ptx edx nrx rtx scx wfx wsx bsx box bbx bex suf)
    refine wq_if_ne rfl (fun c => absurd c (by decide)) (fun _ => ?_)
    refine wq_iconst (v := (-1)) rfl (by decide) ?_
    refine wq_iret rfl trivial ?_
    exact fin_ (P := CIA suf) (A' := (tl, tb, (rn, rb), un, ua, kn, ka)) hQ (by unfold f_root; (try dsimp only); (repeat first | rw [if_pos (by omega)] | rw [if_neg (by omega)]); try rfl) ⟨_, _, _, _, _, _, _, _, _, _, _, _, _, _, _, _, _, _, _, _, _, _, _, _, _, _, _, _, _, _, rfl, hI0⟩
theorem C_root_neg {d : Nat} {suf : mH} {A : AS} {h : mH} {Q : Option Value → mH → Prop} (hR : CIA suf A h) {v1 : Int32} (hneg : v1 < 0) (hQ : ∀ h', CIA suf A h' → Q (some (.int (-1))) h') : Rn mprog (d + 9) n_Z_root [.ref 0, .int v1] h Q := by
  obtain ⟨tl, tb, ⟨rn, rb⟩, un, ua, kn, ka⟩ := A
  obtain ⟨ta, ra, qn, qa, σ, us, ρ, ks, pts, edg, nr, rt, sc, wf, ws, bsz, bop, bbg, ben, ptx, edx, nrx, rtx, scx, wfx, wsx, bsx, box, bbx, bex, rfl, hI⟩ := hR
  have hI0 := hI
  obtain ⟨hl, hta, hV0, hra, hqn, hu, hSu, hU, hk, hSk, hK, hNI, hbx⟩ := hI
  dsimp only at hl hta hV0 hra hqn hu hSu hU hk hSk hK hNI hbx
  have hE : EqR (rn, ra) (rn, rb) := ⟨rfl, hra⟩
  have hV : RV (rn, ra) := RV_congr hE hV0
  have hrn : rn ≤ 40 := hV.1
  obtain ⟨e1, e2, hnr0, hrt0, hsc0, hB, hO, hbv⟩ := hNI
  dsimp only at e1 e2 hnr0 hrt0 hsc0 hB hO hbv
  subst e1
  subst e2
  have hTV := stP hV0 (Nat.le_refl rn)
  have hpt := hTV.1.1
  have hnr : ∀ p, p < 9 → nr p < 512 := fun p hp => by rw [hnr0 p hp]; exact hTV.1.2.1.1 p hp
  obtain ⟨hn1, hq1⟩ := BL_BQ hV0 hB
  have hbz : ∀ i, i < bsz → bbg i < 2 ^ 31 ∧ ben i < 2 ^ 31 := fun i hi => hbv i (by omega)
  refine Rn.in rfl rfl rfl ?_
  show WP _ _ _ _ 0 [.ref 0, .int v1] [] (zW tl ta rn ra qn qa un σ us kn ρ ks ((stR rb rn).1) ((stR rb rn).2.1) nr rt sc wf ws bsz bop bbg ben ptx edx nrx rtx scx wfx wsx bsx box bbx bex suf)
  refine wq_iload_n rfl rfl ?_
  refine wq_stat (a := [.int v1]) (rest := []) rfl rfl rfl rfl rfl ?_
  refine r_Z_isPoint (fun c1 => absurd c1 (fun z => nI_ngl (k := 0) hneg (by decide) z.1)) (fun c1 => ?_)
  show WP _ _ _ _ 4 [.ref 0, .int v1] [.int (nI 0)] (zW tl ta rn ra qn qa un σ us kn ρ ks ((stR rb rn).1) ((stR rb rn).2.1) nr rt sc wf ws bsz bop bbg ben ptx edx nrx rtx scx wfx wsx bsx box bbx bex suf)
  refine wq_if_ne rfl (fun c => absurd c (by decide)) (fun _ => ?_)
  refine wq_iconst (v := (-1)) rfl (by decide) ?_
  refine wq_iret rfl trivial ?_
  exact hQ _ ⟨_, _, _, _, _, _, _, _, _, _, _, _, _, _, _, _, _, _, _, _, _, _, _, _, _, _, _, _, _, _, rfl, hI0⟩
theorem C_kin {d : Nat} {suf : mH} {A : AS} {h : mH} {Q : Option Value → mH → Prop} (hR : CIA suf A h) {x : Nat} (hx0 : x < 2 ^ 31) {y : Nat} (hy0 : y < 2 ^ 31)  (hQ : ∀ h', CIA suf (f_kin A x y).2 h' → Q (some (.int (f_kin A x y).1)) h') : Rn mprog (d + 9) n_Z_kin [.ref 0, .int (nI x), .int (nI y)] h Q := by
  obtain ⟨tl, tb, ⟨rn, rb⟩, un, ua, kn, ka⟩ := A
  obtain ⟨ta, ra, qn, qa, σ, us, ρ, ks, pts, edg, nr, rt, sc, wf, ws, bsz, bop, bbg, ben, ptx, edx, nrx, rtx, scx, wfx, wsx, bsx, box, bbx, bex, rfl, hI⟩ := hR
  have hI0 := hI
  obtain ⟨hl, hta, hV0, hra, hqn, hu, hSu, hU, hk, hSk, hK, hNI, hbx⟩ := hI
  dsimp only at hl hta hV0 hra hqn hu hSu hU hk hSk hK hNI hbx
  have hE : EqR (rn, ra) (rn, rb) := ⟨rfl, hra⟩
  have hV : RV (rn, ra) := RV_congr hE hV0
  have hrn : rn ≤ 40 := hV.1
  obtain ⟨e1, e2, hnr0, hrt0, hsc0, hB, hO, hbv⟩ := hNI
  dsimp only at e1 e2 hnr0 hrt0 hsc0 hB hO hbv
  subst e1
  subst e2
  have hTV := stP hV0 (Nat.le_refl rn)
  have hpt := hTV.1.1
  have hnr : ∀ p, p < 9 → nr p < 512 := fun p hp => by rw [hnr0 p hp]; exact hTV.1.2.1.1 p hp
  obtain ⟨hn1, hq1⟩ := BL_BQ hV0 hB
  have hbz : ∀ i, i < bsz → bbg i < 2 ^ 31 ∧ ben i < 2 ^ 31 := fun i hi => hbv i (by omega)
  refine Rn.in rfl rfl rfl ?_
  show WP _ _ _ _ 0 [.ref 0, .int (nI x), .int (nI y), .long 0] [] (zW tl ta rn ra qn qa un σ us kn ρ ks ((stR rb rn).1) ((stR rb rn).2.1) nr rt sc wf ws bsz bop bbg ben ptx edx nrx rtx scx wfx wsx bsx box bbx bex suf)
  refine wq_iload_n rfl rfl ?_
  refine wq_stat (a := [.int (nI x)]) (rest := []) rfl rfl rfl rfl rfl ?_
  refine r_Z_isPtN (by omega) (fun c1 => ?_) (fun c1 => ?_)
  · skip
    show WP _ _ _ _ 4 [.ref 0, .int (nI x), .int (nI y), .long 0] [.int (nI 1)] (zW tl ta rn ra qn qa un σ us kn ρ ks ((stR rb rn).1) ((stR rb rn).2.1) nr rt sc wf ws bsz bop bbg ben ptx edx nrx rtx scx wfx wsx bsx box bbx bex suf)
    refine wq_if_eq rfl (fun c => absurd c (by decide)) (fun _ => ?_)
    refine wq_iload_n rfl rfl ?_
    refine wq_stat (a := [.int (nI y)]) (rest := []) rfl rfl rfl rfl rfl ?_
    refine r_Z_isPtN (by omega) (fun c8 => ?_) (fun c8 => ?_)
    · skip
      show WP _ _ _ _ 11 [.ref 0, .int (nI x), .int (nI y), .long 0] [.int (nI 1)] (zW tl ta rn ra qn qa un σ us kn ρ ks ((stR rb rn).1) ((stR rb rn).2.1) nr rt sc wf ws bsz bop bbg ben ptx edx nrx rtx scx wfx wsx bsx box bbx bex suf)
      refine wq_if_ne rfl (fun _ => ?_) (fun c => absurd c (by decide))
      refine wq_aload_n rfl rfl ?_
      refine wq_getfield (v := .ref 27) rfl zo_0 rfl ?_
      refine wq_getfield (v := .ref 28) rfl zo_27 rfl ?_
      refine wq_iload_n rfl rfl ?_
      refine wq_virt (b := 28) (a := [.int (nI x)]) (rest := []) rfl rfl rfl rfl rfl zo_28 ?_
      rw [zv_ns]
      refine r_Net_has (by rfl) (by omega) hpt (fun c24 => ?_) (fun c24 => ?_)
      all_goals rw [← zv_ns]
      · skip
        show WP _ _ _ _ 27 [.ref 0, .int (nI x), .int (nI y), .long 0] [.int (nI 1)] (zW tl ta rn ra qn qa un σ us kn ρ ks ((stR rb rn).1) ((stR rb rn).2.1) nr rt sc wf ws bsz bop bbg ben ptx edx nrx rtx scx wfx wsx bsx box bbx bex suf)
        refine wq_if_eq rfl (fun c => absurd c (by decide)) (fun _ => ?_)
        refine wq_aload_n rfl rfl ?_
        refine wq_getfield (v := .ref 27) rfl zo_0 rfl ?_
        refine wq_getfield (v := .ref 28) rfl zo_27 rfl ?_
        refine wq_iload_n rfl rfl ?_
        refine wq_virt (b := 28) (a := [.int (nI y)]) (rest := []) rfl rfl rfl rfl rfl zo_28 ?_
        rw [zv_ns]
        refine r_Net_has (by rfl) (by omega) hpt (fun c38 => ?_) (fun c38 => ?_)
        all_goals rw [← zv_ns]
        · skip
          show WP _ _ _ _ 41 [.ref 0, .int (nI x), .int (nI y), .long 0] [.int (nI 1)] (zW tl ta rn ra qn qa un σ us kn ρ ks ((stR rb rn).1) ((stR rb rn).2.1) nr rt sc wf ws bsz bop bbg ben ptx edx nrx rtx scx wfx wsx bsx box bbx bex suf)
          refine wq_if_eq rfl (fun c => absurd c (by decide)) (fun _ => ?_)
          refine wq_aload_n rfl rfl ?_
          refine wq_getfield (v := .ref 27) rfl zo_0 rfl ?_
          refine wq_getfield (v := .ref 28) rfl zo_27 rfl ?_
          refine wq_iload_n rfl rfl ?_
          refine wq_virt (b := 28) (a := [.int (nI x)]) (rest := []) rfl rfl rfl rfl rfl zo_28 ?_
          rw [zv_ns]
          refine r_Net_pieceOf (by rfl) (by omega) hnr (fun R hR => ?_) hpt c24
          rw [← zv_ns]
          have eR : R = pOf (stR rb rn).2.2.1 x := by rw [IsR_pOf hR]; exact pOf_congr hnr0 x
          have hR5 := hR.1
          have hR0 : R ≠ 0 := fun z => by have q := hR.2.1; rw [z, Nat.zero_testBit] at q; exact absurd q (by decide)
          show WP _ _ _ _ 55 [.ref 0, .int (nI x), .int (nI y), .long 0] [.int (nI R)] (zW tl ta rn ra qn qa un σ us kn ρ ks ((stR rb rn).1) ((stR rb rn).2.1) nr rt sc wf ws bsz bop bbg ben ptx edx nrx rtx scx wfx wsx bsx box bbx bex suf)
          refine wq_iload_n rfl rfl ?_
          refine wq_stat (a := [.int (nI R), .int (nI y)]) (rest := []) rfl rfl rfl rfl rfl ?_
          refine r_Z_isIn (by omega) (by omega) (fun c56 => ?_) (fun c56 => ?_)
          · skip
            show WP _ _ _ _ 59 [.ref 0, .int (nI x), .int (nI y), .long 0] [.int (nI 1)] (zW tl ta rn ra qn qa un σ us kn ρ ks ((stR rb rn).1) ((stR rb rn).2.1) nr rt sc wf ws bsz bop bbg ben ptx edx nrx rtx scx wfx wsx bsx box bbx bex suf)
            refine wq_if_eq rfl (fun c => absurd c (by decide)) (fun _ => ?_)
            refine wq_bipush (v := (-2)) rfl (by decide) ?_
            refine wq_iret rfl trivial ?_
            rw [eR] at c56
            exact fin_ (P := CIA suf) (A' := (tl, tb, (rn, rb), un, ua, kn, ka)) hQ (by unfold f_kin; (try dsimp only); rw [if_neg (by omega), if_pos (Or.inr (Or.inr (show (pOf (sT (tl, tb, (rn, rb), un, ua, kn, ka)).2.2.1 x).testBit y = true from c56)))]) ⟨_, _, _, _, _, _, _, _, _, _, _, _, _, _, _, _, _, _, _, _, _, _, _, _, _, _, _, _, _, _, rfl, hI0⟩
          · skip
            show WP _ _ _ _ 59 [.ref 0, .int (nI x), .int (nI y), .long 0] [.int (nI 0)] (zW tl ta rn ra qn qa un σ us kn ρ ks ((stR rb rn).1) ((stR rb rn).2.1) nr rt sc wf ws bsz bop bbg ben ptx edx nrx rtx scx wfx wsx bsx box bbx bex suf)
            refine wq_if_eq rfl (fun _ => ?_) (fun c => absurd c (by decide))
            refine wq_aload_n rfl rfl ?_
            refine wq_getfield (v := .ref 27) rfl zo_0 rfl ?_
            refine wq_getfield (v := .ref 30) rfl zo_27 rfl ?_
            refine wq_iload_n rfl rfl ?_
            refine wq_iload_n rfl rfl ?_
            refine wq_virt (b := 30) (a := [.int (nI x), .int (nI y)]) (rest := []) rfl rfl rfl rfl rfl zo_30 ?_
            have hscxy := hsc0 x y (by omega) (by omega)
            have hscb : sc x y ≤ rn := by rw [hscxy]; exact hTV.1.2.2.2.2.2.2.2.2.1 x y (by omega) (by omega)
            rw [zv_ks]
            refine r_Kin_sinceOf (by rfl) (by omega) (by omega) ?_
            rw [← zv_ks]
            show WP _ _ _ _ 77 [.ref 0, .int (nI x), .int (nI y), .long 0] [.int (nI (sc x y))] (zW tl ta rn ra qn qa un σ us kn ρ ks ((stR rb rn).1) ((stR rb rn).2.1) nr rt sc wf ws bsz bop bbg ben ptx edx nrx rtx scx wfx wsx bsx box bbx bex suf)
            refine wq_istore_n (lv' := [.ref 0, .int (nI x), .int (nI y), .int (nI (sc x y))]) rfl rfl rfl ?_
            refine wq_iload_n rfl rfl ?_
            refine wn_if_le rfl (by omega) (fun c79 => ?_) (fun c79 => ?_)
            · skip
              refine wq_bipush (v := (-4)) rfl (by decide) ?_
              refine wq_iret rfl trivial ?_
              rw [eR] at c56
              have hno : ¬ ((sT (tl, tb, (rn, rb), un, ua, kn, ka)).1.testBit x = false ∨ (sT (tl, tb, (rn, rb), un, ua, kn, ka)).1.testBit y = false ∨ (pOf (sT (tl, tb, (rn, rb), un, ua, kn, ka)).2.2.1 x).testBit y = true) := fun z => z.elim (fun z => by have z : (stR rb rn).1.testBit x = false := z; rw [c24] at z; exact absurd z (by decide)) (fun z => z.elim (fun z => by have z : (stR rb rn).1.testBit y = false := z; rw [c38] at z; exact absurd z (by decide)) (fun z => by have z : (pOf (stR rb rn).2.2.1 x).testBit y = true := z; rw [c56] at z; exact absurd z (by decide)))
              rw [hscxy] at c79
              exact fin_ (P := CIA suf) (A' := (tl, tb, (rn, rb), un, ua, kn, ka)) hQ (by unfold f_kin; (try dsimp only); rw [if_neg (by omega), if_neg hno, if_pos (show (sT (tl, tb, (rn, rb), un, ua, kn, ka)).2.2.2.2.1 x y = 0 by show (stR rb rn).2.2.2.2.1 x y = 0; omega)]) ⟨_, _, _, _, _, _, _, _, _, _, _, _, _, _, _, _, _, _, _, _, _, _, _, _, _, _, _, _, _, _, rfl, hI0⟩
            · skip
              refine wq_iload_n rfl rfl ?_
              refine wq_goto rfl ?_
              refine wq_iret rfl trivial ?_
              rw [eR] at c56
              have hno : ¬ ((sT (tl, tb, (rn, rb), un, ua, kn, ka)).1.testBit x = false ∨ (sT (tl, tb, (rn, rb), un, ua, kn, ka)).1.testBit y = false ∨ (pOf (sT (tl, tb, (rn, rb), un, ua, kn, ka)).2.2.1 x).testBit y = true) := fun z => z.elim (fun z => by have z : (stR rb rn).1.testBit x = false := z; rw [c24] at z; exact absurd z (by decide)) (fun z => z.elim (fun z => by have z : (stR rb rn).1.testBit y = false := z; rw [c38] at z; exact absurd z (by decide)) (fun z => by have z : (pOf (stR rb rn).2.2.1 x).testBit y = true := z; rw [c56] at z; exact absurd z (by decide)))
              rw [hscxy] at c79
              rw [hscxy]
              exact fin_ (P := CIA suf) (A' := (tl, tb, (rn, rb), un, ua, kn, ka)) hQ (by unfold f_kin; (try dsimp only); rw [if_neg (by omega), if_neg hno, if_neg (show ¬ (sT (tl, tb, (rn, rb), un, ua, kn, ka)).2.2.2.2.1 x y = 0 by show ¬ (stR rb rn).2.2.2.2.1 x y = 0; omega)]; rfl) ⟨_, _, _, _, _, _, _, _, _, _, _, _, _, _, _, _, _, _, _, _, _, _, _, _, _, _, _, _, _, _, rfl, hI0⟩
        · skip
          show WP _ _ _ _ 41 [.ref 0, .int (nI x), .int (nI y), .long 0] [.int (nI 0)] (zW tl ta rn ra qn qa un σ us kn ρ ks ((stR rb rn).1) ((stR rb rn).2.1) nr rt sc wf ws bsz bop bbg ben ptx edx nrx rtx scx wfx wsx bsx box bbx bex suf)
          refine wq_if_eq rfl (fun _ => ?_) (fun c => absurd c (by decide))
          refine wq_bipush (v := (-2)) rfl (by decide) ?_
          refine wq_iret rfl trivial ?_
          exact fin_ (P := CIA suf) (A' := (tl, tb, (rn, rb), un, ua, kn, ka)) hQ (by unfold f_kin; (try dsimp only); rw [if_neg (by omega), if_pos (Or.inr (Or.inl (show (sT (tl, tb, (rn, rb), un, ua, kn, ka)).1.testBit y = false from c38)))]) ⟨_, _, _, _, _, _, _, _, _, _, _, _, _, _, _, _, _, _, _, _, _, _, _, _, _, _, _, _, _, _, rfl, hI0⟩
      · skip
        show WP _ _ _ _ 27 [.ref 0, .int (nI x), .int (nI y), .long 0] [.int (nI 0)] (zW tl ta rn ra qn qa un σ us kn ρ ks ((stR rb rn).1) ((stR rb rn).2.1) nr rt sc wf ws bsz bop bbg ben ptx edx nrx rtx scx wfx wsx bsx box bbx bex suf)
        refine wq_if_eq rfl (fun _ => ?_) (fun c => absurd c (by decide))
        refine wq_bipush (v := (-2)) rfl (by decide) ?_
        refine wq_iret rfl trivial ?_
        exact fin_ (P := CIA suf) (A' := (tl, tb, (rn, rb), un, ua, kn, ka)) hQ (by unfold f_kin; (try dsimp only); rw [if_neg (by omega), if_pos (Or.inl (show (sT (tl, tb, (rn, rb), un, ua, kn, ka)).1.testBit x = false from c24))]) ⟨_, _, _, _, _, _, _, _, _, _, _, _, _, _, _, _, _, _, _, _, _, _, _, _, _, _, _, _, _, _, rfl, hI0⟩
    · skip
      show WP _ _ _ _ 11 [.ref 0, .int (nI x), .int (nI y), .long 0] [.int (nI 0)] (zW tl ta rn ra qn qa un σ us kn ρ ks ((stR rb rn).1) ((stR rb rn).2.1) nr rt sc wf ws bsz bop bbg ben ptx edx nrx rtx scx wfx wsx bsx box bbx bex suf)
      refine wq_if_ne rfl (fun c => absurd c (by decide)) (fun _ => ?_)
      refine wq_iconst (v := (-1)) rfl (by decide) ?_
      refine wq_iret rfl trivial ?_
      exact fin_ (P := CIA suf) (A' := (tl, tb, (rn, rb), un, ua, kn, ka)) hQ (by unfold f_kin; (try dsimp only); (repeat first | rw [if_pos (by omega)] | rw [if_neg (by omega)]); try rfl) ⟨_, _, _, _, _, _, _, _, _, _, _, _, _, _, _, _, _, _, _, _, _, _, _, _, _, _, _, _, _, _, rfl, hI0⟩
  · skip
    show WP _ _ _ _ 4 [.ref 0, .int (nI x), .int (nI y), .long 0] [.int (nI 0)] (zW tl ta rn ra qn qa un σ us kn ρ ks ((stR rb rn).1) ((stR rb rn).2.1) nr rt sc wf ws bsz bop bbg ben ptx edx nrx rtx scx wfx wsx bsx box bbx bex suf)
    refine wq_if_eq rfl (fun _ => ?_) (fun c => absurd c (by decide))
    refine wq_iconst (v := (-1)) rfl (by decide) ?_
    refine wq_iret rfl trivial ?_
    exact fin_ (P := CIA suf) (A' := (tl, tb, (rn, rb), un, ua, kn, ka)) hQ (by unfold f_kin; (try dsimp only); (repeat first | rw [if_pos (by omega)] | rw [if_neg (by omega)]); try rfl) ⟨_, _, _, _, _, _, _, _, _, _, _, _, _, _, _, _, _, _, _, _, _, _, _, _, _, _, _, _, _, _, rfl, hI0⟩
theorem C_kin_neg {d : Nat} {suf : mH} {A : AS} {h : mH} {Q : Option Value → mH → Prop} (hR : CIA suf A h) {v1 v2 : Int32} (hneg : v1 < 0 ∨ v2 < 0) (hQ : ∀ h', CIA suf A h' → Q (some (.int (-1))) h') : Rn mprog (d + 9) n_Z_kin [.ref 0, .int v1, .int v2] h Q := by
  obtain ⟨tl, tb, ⟨rn, rb⟩, un, ua, kn, ka⟩ := A
  obtain ⟨ta, ra, qn, qa, σ, us, ρ, ks, pts, edg, nr, rt, sc, wf, ws, bsz, bop, bbg, ben, ptx, edx, nrx, rtx, scx, wfx, wsx, bsx, box, bbx, bex, rfl, hI⟩ := hR
  have hI0 := hI
  obtain ⟨hl, hta, hV0, hra, hqn, hu, hSu, hU, hk, hSk, hK, hNI, hbx⟩ := hI
  dsimp only at hl hta hV0 hra hqn hu hSu hU hk hSk hK hNI hbx
  have hE : EqR (rn, ra) (rn, rb) := ⟨rfl, hra⟩
  have hV : RV (rn, ra) := RV_congr hE hV0
  have hrn : rn ≤ 40 := hV.1
  obtain ⟨e1, e2, hnr0, hrt0, hsc0, hB, hO, hbv⟩ := hNI
  dsimp only at e1 e2 hnr0 hrt0 hsc0 hB hO hbv
  subst e1
  subst e2
  have hTV := stP hV0 (Nat.le_refl rn)
  have hpt := hTV.1.1
  have hnr : ∀ p, p < 9 → nr p < 512 := fun p hp => by rw [hnr0 p hp]; exact hTV.1.2.1.1 p hp
  obtain ⟨hn1, hq1⟩ := BL_BQ hV0 hB
  have hbz : ∀ i, i < bsz → bbg i < 2 ^ 31 ∧ ben i < 2 ^ 31 := fun i hi => hbv i (by omega)
  rcases hneg with hneg | hneg
  · skip
    refine Rn.in rfl rfl rfl ?_
    show WP _ _ _ _ 0 [.ref 0, .int v1, .int v2, .long 0] [] (zW tl ta rn ra qn qa un σ us kn ρ ks ((stR rb rn).1) ((stR rb rn).2.1) nr rt sc wf ws bsz bop bbg ben ptx edx nrx rtx scx wfx wsx bsx box bbx bex suf)
    refine wq_iload_n rfl rfl ?_
    refine wq_stat (a := [.int v1]) (rest := []) rfl rfl rfl rfl rfl ?_
    refine r_Z_isPoint (fun c1 => absurd c1 (fun z => nI_ngl (k := 0) hneg (by decide) z.1)) (fun c1 => ?_)
    show WP _ _ _ _ 4 [.ref 0, .int v1, .int v2, .long 0] [.int (nI 0)] (zW tl ta rn ra qn qa un σ us kn ρ ks ((stR rb rn).1) ((stR rb rn).2.1) nr rt sc wf ws bsz bop bbg ben ptx edx nrx rtx scx wfx wsx bsx box bbx bex suf)
    refine wq_if_eq rfl (fun _ => ?_) (fun c => absurd c (by decide))
    refine wq_iconst (v := (-1)) rfl (by decide) ?_
    refine wq_iret rfl trivial ?_
    exact hQ _ ⟨_, _, _, _, _, _, _, _, _, _, _, _, _, _, _, _, _, _, _, _, _, _, _, _, _, _, _, _, _, _, rfl, hI0⟩
  · skip
    refine Rn.in rfl rfl rfl ?_
    show WP _ _ _ _ 0 [.ref 0, .int v1, .int v2, .long 0] [] (zW tl ta rn ra qn qa un σ us kn ρ ks ((stR rb rn).1) ((stR rb rn).2.1) nr rt sc wf ws bsz bop bbg ben ptx edx nrx rtx scx wfx wsx bsx box bbx bex suf)
    refine wq_iload_n rfl rfl ?_
    refine wq_stat (a := [.int v1]) (rest := []) rfl rfl rfl rfl rfl ?_
    refine r_Z_isPoint (fun c1 => ?_) (fun c1 => ?_)
    · skip
      show WP _ _ _ _ 4 [.ref 0, .int v1, .int v2, .long 0] [.int (nI 1)] (zW tl ta rn ra qn qa un σ us kn ρ ks ((stR rb rn).1) ((stR rb rn).2.1) nr rt sc wf ws bsz bop bbg ben ptx edx nrx rtx scx wfx wsx bsx box bbx bex suf)
      refine wq_if_eq rfl (fun c => absurd c (by decide)) (fun _ => ?_)
      refine wq_iload_n rfl rfl ?_
      refine wq_stat (a := [.int v2]) (rest := []) rfl rfl rfl rfl rfl ?_
      refine r_Z_isPoint (fun c8 => absurd c8 (fun z => nI_ngl (k := 0) hneg (by decide) z.1)) (fun c8 => ?_)
      show WP _ _ _ _ 11 [.ref 0, .int v1, .int v2, .long 0] [.int (nI 0)] (zW tl ta rn ra qn qa un σ us kn ρ ks ((stR rb rn).1) ((stR rb rn).2.1) nr rt sc wf ws bsz bop bbg ben ptx edx nrx rtx scx wfx wsx bsx box bbx bex suf)
      refine wq_if_ne rfl (fun c => absurd c (by decide)) (fun _ => ?_)
      refine wq_iconst (v := (-1)) rfl (by decide) ?_
      refine wq_iret rfl trivial ?_
      exact hQ _ ⟨_, _, _, _, _, _, _, _, _, _, _, _, _, _, _, _, _, _, _, _, _, _, _, _, _, _, _, _, _, _, rfl, hI0⟩
    · skip
      show WP _ _ _ _ 4 [.ref 0, .int v1, .int v2, .long 0] [.int (nI 0)] (zW tl ta rn ra qn qa un σ us kn ρ ks ((stR rb rn).1) ((stR rb rn).2.1) nr rt sc wf ws bsz bop bbg ben ptx edx nrx rtx scx wfx wsx bsx box bbx bex suf)
      refine wq_if_eq rfl (fun _ => ?_) (fun c => absurd c (by decide))
      refine wq_iconst (v := (-1)) rfl (by decide) ?_
      refine wq_iret rfl trivial ?_
      exact hQ _ ⟨_, _, _, _, _, _, _, _, _, _, _, _, _, _, _, _, _, _, _, _, _, _, _, _, _, _, _, _, _, _, rfl, hI0⟩
