/-! the reference: begins, does, runs -/
/-- an act's number in the reference -/
def cdA (ac : Nat) : Nat := 100 * (ac >>> 8) + 10 * (ac >>> 4 &&& 15) + (if ac >>> 8 < 2 then 0 else ac &&& 15)
theorem cdA_f {ac : Nat} (h : AV ac) : cdA ac < 400 ∧ ac >>> 8 = cdA ac / 100 ∧ ac >>> 4 &&& 15 = cdA ac / 10 % 10 ∧ (2 ≤ cdA ac / 100 → ac &&& 15 = cdA ac % 10) ∧ cdA ac % 10 < 9 := by
  have h4 := AV_k h
  obtain ⟨h1, h2, h3, -⟩ := h
  unfold cdA
  generalize ac >>> 8 = κ at *
  generalize ac >>> 4 &&& 15 = A at *
  generalize ac &&& 15 = B at *
  by_cases z : κ < 2
  · rw [if_pos z]
    refine ⟨by omega, by omega, by omega, fun y => by omega, by omega⟩
  · rw [if_neg z]
    refine ⟨by omega, by omega, by omega, fun y => by omega, by omega⟩
theorem mayB_b {th κ A B B' : Nat} {be : Nat → Nat} (h : 2 ≤ κ → B = B') : mayB th be κ A B = mayB th be κ A B' := by
  unfold mayB
  by_cases e0 : κ = 0
  · rw [if_pos e0, if_pos e0]
  · by_cases e1 : κ = 1
    · rw [if_neg e0, if_neg e0, if_pos e1, if_pos e1]
    · rw [h (by omega)]
theorem mayT_cd {ac : Nat} {τ : TT} (h : AV ac) {th : Nat} {be : Nat → Nat} (h1 : th = τ.1) (h2 : ∀ p, p < 9 → be p = τ.2.2.1 p) : mayB th be (cdA ac / 100) (cdA ac / 10 % 10) (cdA ac % 10) = mayT τ ac := by
  obtain ⟨c1, c2, c3, c4, c5⟩ := cdA_f h
  unfold mayT
  rw [← c2, ← c3, h1, mayB_b (fun y => (c4 (by rw [← c2]; exact y)).symm)]
  exact mayB_congr h.2.1 h2
theorem l_S_begins {d b : Nat} {pre : mH} {F : Nat → Nat} {G : Nat → Nat → Nat} {th pcs brs : Nat} {be po ro bg en : Nat → Nat} {kf : Nat → Nat → Nat} {Q : Option Value → mH → Prop} (hb : pre.length = b) (hQ : Q none (mS b pre F G 0 0 0 (fz 0 be 9) (fz 0 po 9) ro kf bg en)) : ∀ (n i : Nat), i + n = 9 → WP (Rn mprog d) k_M_begins none Q 17 [.ref b, .int (nI i)] [] (mS b pre F G 0 0 0 (fz 0 be i) (fz 0 po i) ro kf bg en) := by
  intro n
  induction n with
  | zero =>
    intro i hi
    have e : i = 9 := by omega
    subst e
    refine wq_iload_n rfl rfl ?_
    refine wq_bipush (v := nI 9) rfl (by decide) ?_
    refine wq_ic_ge rfl (fun _ => ?_) (fun c => absurd c (by decide))
    refine wq_vret rfl rfl ?_
    exact hQ
  | succ n ih =>
    intro i hi
    refine wq_iload_n rfl rfl ?_
    refine wq_bipush (v := nI 9) rfl (by decide) ?_
    refine wn_ic_ge rfl (by omega) (by omega) (fun c20 => absurd c20 (by omega)) (fun c20 => ?_)
    refine wq_aload_n rfl rfl ?_
    refine wq_getfield (v := .ref (b + 5)) rfl (mS_o hb) rfl ?_
    refine wq_iload_n rfl rfl ?_
    refine wq_iconst (v := nI 0) rfl (by decide) ?_
    refine wn_iastore (g := (fz 0 be i)) (h' := mS b pre F G 0 0 0 (uN' ((fz 0 be i)) i 0) (fz 0 po i) ro kf bg en) rfl (mS_a9 hb) (by omega) (by decide) (mS_t9 hb) ?_
    refine wq_aload_n rfl rfl ?_
    refine wq_getfield (v := .ref (b + 6)) rfl (mS_o hb) rfl ?_
    refine wq_iload_n rfl rfl ?_
    refine wq_iconst (v := nI 0) rfl (by decide) ?_
    refine wn_iastore (g := (fz 0 po i)) (h' := mS b pre F G 0 0 0 (uN' ((fz 0 be i)) i 0) (uN' ((fz 0 po i)) i 0) ro kf bg en) rfl (mS_a10 hb) (by omega) (by decide) (mS_t10 hb) ?_
    refine wn_inc (lv' := [.ref b, .int (nI (i + 1))]) rfl rfl rfl ?_
    refine wq_goto rfl ?_
    rw [fz_s, fz_s]
    exact ih (i + 1) (by omega)
theorem r_S_begins {d b : Nat} {pre : mH} {F : Nat → Nat} {G : Nat → Nat → Nat} {th pcs brs : Nat} {be po ro bg en : Nat → Nat} {kf : Nat → Nat → Nat} {Q : Option Value → mH → Prop} (hb : pre.length = b) (hQ : Q none (mS b pre F G 0 0 0 (fz 0 be 9) (fz 0 po 9) ro kf bg en)) : Rn mprog (d + 1) n_M_begins [.ref b] (mS b pre F G th pcs brs be po ro kf bg en) Q := by
  refine Rn.in rfl rfl rfl ?_
  show WP _ _ _ _ 0 [.ref b, .long 0] [] (mS b pre F G th pcs brs be po ro kf bg en)
  refine wq_aload_n rfl rfl ?_
  refine wq_iconst (v := nI 0) rfl (by decide) ?_
  refine wq_putfield (h' := mS b pre F G 0 pcs brs be po ro kf bg en) rfl (mS_o hb) rfl (mS_s8 hb) ?_
  refine wq_aload_n rfl rfl ?_
  refine wq_iconst (v := nI 0) rfl (by decide) ?_
  refine wq_putfield (h' := mS b pre F G 0 0 brs be po ro kf bg en) rfl (mS_o hb) rfl (mS_s11 hb) ?_
  refine wq_aload_n rfl rfl ?_
  refine wq_iconst (v := nI 0) rfl (by decide) ?_
  refine wq_putfield (h' := mS b pre F G 0 0 0 be po ro kf bg en) rfl (mS_o hb) rfl (mS_s16 hb) ?_
  refine wq_iconst (v := nI 0) rfl (by decide) ?_
  refine wq_istore_n (lv' := [.ref b, .int (nI 0)]) rfl rfl rfl ?_
  have q := l_S_begins (th := 0) (pcs := 0) (brs := 0) (d := d) (Q := Q) hb hQ 9 0 rfl
  rw [fz_0, fz_0] at q
  exact q
theorem r_S_does {d b : Nat} {pre : mH} {F : Nat → Nat} {G : Nat → Nat → Nat} {th pcs brs : Nat} {be po ro bg en : Nat → Nat} {kf : Nat → Nat → Nat} {Q : Option Value → mH → Prop} (hb : pre.length = b) {τ : TT} {k ac cd : Nat} (hTV : TV τ k) (hk : k < 40) (hcd : cd < 400) (e8 : ac >>> 8 = cd / 100) (e4 : ac >>> 4 &&& 15 = cd / 10 % 10) (e0 : 2 ≤ cd / 100 → ac &&& 15 = cd % 10) (h1 : cd / 10 % 10 < 9) (h2 : cd % 10 < 9) (hm : mayB τ.1 τ.2.2.1 (cd / 100) (cd / 10 % 10) (cd % 10) = true) (hS : Sim τ k th pcs brs be po ro kf bg en) (hQ : ∀ th' pcs' brs' be' po' ro' kf' bg' en', Sim (tS ac (k + 1) τ) (k + 1) th' pcs' brs' be' po' ro' kf' bg' en' → Q none (mS b pre F G th' pcs' brs' be' po' ro' kf' bg' en')) : Rn mprog (d + 4) n_M_does [.ref b, .int (nI cd), .int (nI (k + 1))] (mS b pre F G th pcs brs be po ro kf bg en) Q := by
  have hth : th < 512 := by rw [hS.1]; exact hTV.1.1
  have hG := hTV.1.2.1
  have hbe : ∀ p, p < 9 → be p < 512 := fun p hp => by rw [hS.2.1 p hp]; exact hG.1 p hp
  have hL := hS.2.2.1
  have hpp := hL.1
  have hbr : brs < 60 := by have := hS.2.2.2.2.2.2.1; omega
  have hro := hS.2.2.2.2.2.2.2.1
  have hkf := hS.2.2.2.2.2.2.2.2
  have hsa := Nat.lt_trans (sh_lt (n := 9) h1) (show 2 ^ 9 < 2 ^ 32 by decide)
  refine Rn.in rfl rfl rfl ?_
  show WP _ _ _ _ 0 [.ref b, .int (nI cd), .int (nI (k + 1)), .long 0, .long 0] [] (mS b pre F G th pcs brs be po ro kf bg en)
  refine wq_iload_n rfl rfl ?_
  refine wq_stat (a := [.int (nI cd)]) (rest := []) rfl rfl rfl rfl rfl ?_
  refine r_M_oneOf (by omega) ?_
  show WP _ _ _ _ 4 [.ref b, .int (nI cd), .int (nI (k + 1)), .long 0, .long 0] [.int (nI (cd / 10 % 10))] (mS b pre F G th pcs brs be po ro kf bg en)
  refine wq_istore_n (lv' := [.ref b, .int (nI cd), .int (nI (k + 1)), .int (nI (cd / 10 % 10)), .long 0]) rfl rfl rfl ?_
  refine wq_iload_n rfl rfl ?_
  refine wq_stat (a := [.int (nI cd)]) (rest := []) rfl rfl rfl rfl rfl ?_
  refine r_M_otherOf (by omega) ?_
  show WP _ _ _ _ 9 [.ref b, .int (nI cd), .int (nI (k + 1)), .int (nI (cd / 10 % 10)), .long 0] [.int (nI (cd % 10))] (mS b pre F G th pcs brs be po ro kf bg en)
  refine wq_istore (lv' := [.ref b, .int (nI cd), .int (nI (k + 1)), .int (nI (cd / 10 % 10)), .int (nI (cd % 10))]) rfl rfl rfl ?_
  refine wq_iload_n rfl rfl ?_
  refine wq_stat (a := [.int (nI cd)]) (rest := []) rfl rfl rfl rfl rfl ?_
  refine r_M_kindOf (by omega) ?_
  show WP _ _ _ _ 15 [.ref b, .int (nI cd), .int (nI (k + 1)), .int (nI (cd / 10 % 10)), .int (nI (cd % 10))] [.int (nI (cd / 100))] (mS b pre F G th pcs brs be po ro kf bg en)
  rcases (show cd / 100 = 0 ∨ cd / 100 = 1 ∨ cd / 100 = 2 ∨ cd / 100 = 3 by omega) with e15 | e15 | e15 | e15
  · refine wq_tsw (t := 40) rfl (by rw [e15]; decide) ?_
    refine wq_aload_n rfl rfl ?_
    refine wq_iload_n rfl rfl ?_
    refine wq_iload_n rfl rfl ?_
    refine wq_virt (b := b) (a := [.int (nI (cd / 10 % 10)), .int (nI (k + 1))]) (rest := []) rfl rfl rfl rfl rfl (mS_o hb) ?_
    rw [e15] at hm
    have hn := may0 hm
    refine r_S_comes hb h1 hth hpp (Lab_freeL hL (Or.inl ⟨_, h1, hn⟩)) (fun l hl hlb => ?_)
    show WP _ _ _ _ 46 [.ref b, .int (nI cd), .int (nI (k + 1)), .int (nI (cd / 10 % 10)), .int (nI (cd % 10))] [] (mS b pre F G (th ||| 1 <<< (cd / 10 % 10)) (pcs ||| 1 <<< l) brs (uN' be (cd / 10 % 10) 0) (uN' po (cd / 10 % 10) l) (uN' ro l (k + 1)) (kz kf l 9) bg en)
    refine wq_goto rfl ?_
    refine wq_vret rfl rfl ?_
    exact hQ _ _ _ _ _ _ _ _ _ (Sim_come hTV hk hS h1 (e8.trans e15) e4 hn hl hlb)
  · refine wq_tsw (t := 49) rfl (by rw [e15]; decide) ?_
    refine wq_aload_n rfl rfl ?_
    refine wq_dup rfl rfl ?_
    refine wq_getfield (v := .int (nI th)) rfl (mS_o hb) rfl ?_
    refine wq_iconst (v := nI 1) rfl (by decide) ?_
    refine wq_iload_n rfl rfl ?_
    refine wn_ishl rfl (by omega) hsa ?_
    refine wq_iconst (v := (-1)) rfl (by decide) ?_
    refine wq_ixor (v := (nI (1 <<< (cd / 10 % 10)) ^^^ (-1))) rfl rfl ?_
    refine wn_andn rfl ?_
    refine wq_putfield (h' := mS b pre F G (nd th (1 <<< (cd / 10 % 10))) pcs brs be po ro kf bg en) rfl (mS_o hb) rfl (mS_s8 hb) ?_
    refine wq_aload_n rfl rfl ?_
    refine wq_aload_n rfl rfl ?_
    refine wq_getfield (v := .ref (b + 6)) rfl (mS_o hb) rfl ?_
    refine wq_iload_n rfl rfl ?_
    refine wn_iaload (g := po) rfl (mS_a10 hb) (by omega) (by decide) ?_
    refine wq_iload_n rfl rfl ?_
    refine wq_virt (b := b) (a := [.int (nI (po (cd / 10 % 10))), .int (nI (k + 1))]) (rest := []) rfl rfl rfl rfl rfl (mS_o hb) ?_
    rw [e15] at hm
    obtain ⟨hin, hn0⟩ := may1 hm
    have hp9 := hL.2.1 _ h1
    refine r_S_goes hb hp9 hpp hbr (fun q hq => hkf _ q hp9 hq) (hro _ hp9) ?_
    show WP _ _ _ _ 74 [.ref b, .int (nI cd), .int (nI (k + 1)), .int (nI (cd / 10 % 10)), .int (nI (cd % 10))] [] (mS b pre F G (nd th (1 <<< (cd / 10 % 10))) (nd pcs (1 <<< po (cd / 10 % 10))) (brs + 1) be po ro kf (uN' bg brs (if mxK pcs (kf (po (cd / 10 % 10))) (po (cd / 10 % 10)) 9 = 0 then ro (po (cd / 10 % 10)) else mxK pcs (kf (po (cd / 10 % 10))) (po (cd / 10 % 10)) 9)) (uN' en brs (k + 1)))
    refine wq_goto rfl ?_
    refine wq_vret rfl rfl ?_
    exact hQ _ _ _ _ _ _ _ _ _ (Sim_go hTV hS h1 (e8.trans e15) e4 hin hn0)
  · refine wq_tsw (t := 77) rfl (by rw [e15]; decide) ?_
    refine wq_aload_n rfl rfl ?_
    refine wq_iload_n rfl rfl ?_
    refine wq_iload rfl rfl ?_
    refine wq_iload_n rfl rfl ?_
    refine wq_virt (b := b) (a := [.int (nI (cd / 10 % 10)), .int (nI (cd % 10)), .int (nI (k + 1))]) (rest := []) rfl rfl rfl rfl rfl (mS_o hb) ?_
    rw [e15] at hm
    obtain ⟨hne, pA, pB, hnb⟩ := may2 hm
    refine r_S_joins hb h1 h2 hne hth hpp hbr hL.2.1 hro hkf (fun z3 x z1 z2 => SK_hex hS.2.2.2.1 hTV.1 hL h1 h2 pA pB (fun z => z3 ((hL.2.2.2.2 _ _ h1 h2 pA pB).mpr z)) x z1 z2) (fun hpp2 => wq_goto rfl (wq_vret rfl rfl (hQ _ _ _ _ _ _ _ _ _ (Sim_loop hTV hS h1 h2 (e8.trans e15) e4 (e0 (by omega)) hm hpp2)))) (fun hpp2 => ?_)
    show WP _ _ _ _ 85 [.ref b, .int (nI cd), .int (nI (k + 1)), .int (nI (cd / 10 % 10)), .int (nI (cd % 10))] [] (mS b pre F G th (nd pcs (1 <<< (po (cd % 10)))) (brs + 1) (beJ be (cd / 10 % 10) (cd % 10)) (pw 9 (fun p => th.testBit p && Nat.beq (po p) (po (cd % 10))) (fun _ => po (cd / 10 % 10)) po) (if kf (po (cd / 10 % 10)) (po (cd % 10)) = 0 then pw 9 (isR pcs kf (po (cd / 10 % 10)) (po (cd % 10))) (fun _ => min (ro (po (cd / 10 % 10))) (ro (po (cd % 10)))) ro else ro) (kj (nd pcs (1 <<< (po (cd % 10)))) (kb pcs kf (po (cd / 10 % 10)) (po (cd % 10)) (kf (po (cd / 10 % 10)) (po (cd % 10))) 9 0) (po (cd / 10 % 10)) (po (cd % 10)) 9) (uN' bg brs (if 0 < kf (po (cd / 10 % 10)) (po (cd % 10)) then kf (po (cd / 10 % 10)) (po (cd % 10)) else ro (po (cd / 10 % 10)) + ro (po (cd % 10)) - min (ro (po (cd / 10 % 10))) (ro (po (cd % 10))))) (uN' en brs (k + 1)))
    refine wq_goto rfl ?_
    refine wq_vret rfl rfl ?_
    exact hQ _ _ _ _ _ _ _ _ _ (Sim_join hTV hS h1 h2 (e8.trans e15) e4 (e0 (by omega)) hm hpp2)
  · refine wq_tsw (t := 88) rfl (by rw [e15]; decide) ?_
    refine wq_aload_n rfl rfl ?_
    refine wq_iload_n rfl rfl ?_
    refine wq_iload rfl rfl ?_
    refine wq_iload_n rfl rfl ?_
    refine wq_virt (b := b) (a := [.int (nI (cd / 10 % 10)), .int (nI (cd % 10)), .int (nI (k + 1))]) (rest := []) rfl rfl rfl rfl rfl (mS_o hb) ?_
    rw [e15] at hm
    have hnb := may3 hm
    have hne : (cd / 10 % 10) ≠ (cd % 10) := fun z => by rw [← z, hG.2.2 _ h1] at hnb; cases hnb
    have pA := hTV.1.2.2.1 _ _ h1 hnb
    have pB := hTV.1.2.2.1 _ _ h2 (hG.2.1 _ _ h1 h2 hnb)
    have hAB := (hL.2.2.2.2 _ _ h1 h2 pA pB).mpr (cn_edge h1 hnb)
    refine r_S_parts hb h1 h2 hne hbe (hL.2.1 _ h1) (hL.2.2.1 _ h1 pA) (hro _ (hL.2.1 _ h1)) hpp (Lab_freeL hL (Or.inr ⟨_, _, h1, h2, hne, pA, pB, hAB⟩)) (fun R r1 r2 r3 r4 r5 => wq_vret rfl rfl (hQ _ _ _ _ _ _ _ _ _ (Sim_open hTV hS h1 h2 (e8.trans e15) e4 (e0 (by omega)) hm ⟨r1, r2, r3, r4⟩ r5))) (fun R l r1 r2 r3 r4 r5 hl hlb => ?_)
    show WP _ _ _ _ 96 [.ref b, .int (nI cd), .int (nI (k + 1)), .int (nI (cd / 10 % 10)), .int (nI (cd % 10))] [] (mS b pre F G th (pcs ||| 1 <<< l) brs (beP be (cd / 10 % 10) (cd % 10)) (pw 9 (fun q => R.testBit q) (fun _ => l) po) (uN' ro l (ro (po (cd / 10 % 10)))) (sK (kp kf (po (cd / 10 % 10)) l 9) l (po (cd / 10 % 10)) (k + 1)) bg en)
    refine wq_vret rfl rfl ?_
    exact hQ _ _ _ _ _ _ _ _ _ (Sim_part hTV hk hS h1 h2 (e8.trans e15) e4 (e0 (by omega)) hm ⟨r1, r2, r3, r4⟩ r5 hl hlb)
theorem l_S_runs {d b : Nat} {pre : mH} {F : Nat → Nat} {G : Nat → Nat → Nat} {Q : Option Value → mH → Prop} (hb : pre.length = b) {acts : Nat} {ra : Nat → Nat} (hac : acts ≤ 40) (hav : ∀ i, i < acts → AV (ra i)) (hg : ∀ i, i < acts → G 3 (i + 1) = cdA (ra i)) (ht : okR ra acts → ∀ th' pcs' brs' be' po' ro' kf' bg' en', Sim (stR ra acts) acts th' pcs' brs' be' po' ro' kf' bg' en' → Q (some (.int (nI 1))) (mS b pre F G th' pcs' brs' be' po' ro' kf' bg' en')) (hf : ¬ okR ra acts → ∀ th' pcs' brs' be' po' ro' kf' bg' en', (∀ p, p < 9 → ro' p < 1000) → (∀ p q, p < 9 → q < 9 → kf' p q < 1000) → Q (some (.int (nI 0))) (mS b pre F G th' pcs' brs' be' po' ro' kf' bg' en')) : ∀ (m k : Nat) (th pcs brs : Nat) (be po ro : Nat → Nat) (kf : Nat → Nat → Nat) (bg en : Nat → Nat), k + m = acts → okR ra k → Sim (stR ra k) k th pcs brs be po ro kf bg en → WP (Rn mprog (d + 4)) k_M_runs (some .boolean) Q 6 [.ref b, .int (nI acts), .int (nI (k + 1))] [] (mS b pre F G th pcs brs be po ro kf bg en) := by
  intro m
  induction m with
  | zero =>
    intro k th pcs brs be po ro kf bg en hkm hok hS
    have e : k = acts := by omega
    subst e
    refine wq_iload_n rfl rfl ?_
    refine wq_iload_n rfl rfl ?_
    refine wn_ic_gt rfl (by omega) (by omega) (fun c8 => ?_) (fun c8 => absurd c8 (by omega))
    refine wq_iconst (v := nI 1) rfl (by decide) ?_
    refine wq_iret rfl (by first | exact Or.inl rfl | exact Or.inr rfl) ?_
    exact ht hok _ _ _ _ _ _ _ _ _ hS
  | succ m ih =>
    intro k th pcs brs be po ro kf bg en hkm hok hS
    have hTV := TV_run k (fun i hi => hav i (by omega)) hok
    have hak := hav k (by omega)
    obtain ⟨c1, c2, c3, c4, c5⟩ := cdA_f hak
    have hmc := mayT_cd hak hS.1 hS.2.1
    have hmc2 := mayT_cd (τ := stR ra k) hak rfl (fun _ _ => rfl)
    have hth : th < 512 := by rw [hS.1]; exact hTV.1.1
    have hbe : ∀ p, p < 9 → be p < 512 := fun p hp => by rw [hS.2.1 p hp]; exact hTV.1.2.1.1 p hp
    rw [← hg k (by omega)] at c1 c2 c3 c4 c5 hmc hmc2
    have h1 : G 3 (k + 1) / 10 % 10 < 9 := by rw [← c3]; exact hak.2.1
    refine wq_iload_n rfl rfl ?_
    refine wq_iload_n rfl rfl ?_
    refine wn_ic_gt rfl (by omega) (by omega) (fun c8 => absurd c8 (by omega)) (fun c8 => ?_)
    refine wq_aload_n rfl rfl ?_
    refine wq_aload_n rfl rfl ?_
    refine wq_getfield (v := .ref (b + 2)) rfl (mS_o hb) rfl ?_
    refine wq_iload_n rfl rfl ?_
    refine wn_iaload (g := (G 3)) rfl (mS_a3 hb) (by omega) (by decide) ?_
    refine wq_virt (b := b) (a := [.int (nI (((G 3)) (k + 1)))]) (rest := []) rfl rfl rfl rfl rfl (mS_o hb) ?_
    refine r_S_may hb c1 h1 c5 hth hbe (fun c18 => ?_) (fun c18 => ?_)
    · skip
      show WP _ _ _ _ 21 [.ref b, .int (nI acts), .int (nI (k + 1))] [.int (nI 1)] (mS b pre F G th pcs brs be po ro kf bg en)
      refine wq_if_ne rfl (fun _ => ?_) (fun c => absurd c (by decide))
      refine wq_aload_n rfl rfl ?_
      refine wq_aload_n rfl rfl ?_
      refine wq_getfield (v := .ref (b + 2)) rfl (mS_o hb) rfl ?_
      refine wq_iload_n rfl rfl ?_
      refine wn_iaload (g := (G 3)) rfl (mS_a3 hb) (by omega) (by decide) ?_
      refine wq_iload_n rfl rfl ?_
      refine wq_virt (b := b) (a := [.int (nI (((G 3)) (k + 1))), .int (nI (k + 1))]) (rest := []) rfl rfl rfl rfl rfl (mS_o hb) ?_
      refine r_S_does hb hTV (by omega) c1 c2 c3 c4 h1 c5 (by rw [hmc2, ← hmc]; exact c18) hS ?_
      intro th2 pcs2 brs2 be2 po2 ro2 kf2 bg2 en2 hS2
      show WP _ _ _ _ 37 [.ref b, .int (nI acts), .int (nI (k + 1))] [] (mS b pre F G th2 pcs2 brs2 be2 po2 ro2 kf2 bg2 en2)
      refine wn_inc (lv' := [.ref b, .int (nI acts), .int (nI (k + 1 + 1))]) rfl rfl rfl ?_
      refine wq_goto rfl ?_
      have hok2 : okR ra (k + 1) := fun i hi => by
        rcases Nat.lt_or_eq_of_le (Nat.le_of_lt_succ hi) with r | r
        · exact hok i r
        · rw [r, ← hmc]
          exact c18
      exact ih (k + 1) _ _ _ _ _ _ _ _ _ (by omega) hok2 hS2
    · skip
      show WP _ _ _ _ 21 [.ref b, .int (nI acts), .int (nI (k + 1))] [.int (nI 0)] (mS b pre F G th pcs brs be po ro kf bg en)
      refine wq_if_ne rfl (fun c => absurd c (by decide)) (fun _ => ?_)
      refine wq_iconst (v := nI 0) rfl (by decide) ?_
      refine wq_iret rfl (by first | exact Or.inl rfl | exact Or.inr rfl) ?_
      refine hf (fun z => ?_) _ _ _ _ _ _ _ _ _ hS.2.2.2.2.2.2.2.1 hS.2.2.2.2.2.2.2.2
      have z1 := z k (by omega)
      rw [← hmc, c18] at z1
      cases z1
theorem Sim_0 {be po ro bg en : Nat → Nat} {kf : Nat → Nat → Nat} (h1 : ∀ p, p < 9 → ro p < 1000) (h2 : ∀ p q, p < 9 → q < 9 → kf p q < 1000) : Sim T0 0 0 0 0 (fz 0 be 9) (fz 0 po 9) ro kf bg en := by
  have z : ∀ t, ¬ (0 : Nat).testBit t = true := fun t => by rw [Nat.zero_testBit]; decide
  exact ⟨rfl, fun p hp => if_pos hp, Lab_0 (fun p hp => by unfold fz; rw [if_pos hp]; decide), ⟨fun p _ h => absurd h (z p), fun p q _ _ h => absurd h (z p)⟩, rfl, fun i hi => absurd hi (Nat.not_lt_zero i), by decide, h1, h2⟩
theorem r_S_runs {d b : Nat} {pre : mH} {F : Nat → Nat} {G : Nat → Nat → Nat} {th pcs brs : Nat} {be po ro bg en : Nat → Nat} {kf : Nat → Nat → Nat} {Q : Option Value → mH → Prop} (hb : pre.length = b) (hro : ∀ p, p < 9 → ro p < 1000) (hkf : ∀ p q, p < 9 → q < 9 → kf p q < 1000) {acts : Nat} {ra : Nat → Nat} (hac : acts ≤ 40) (hav : ∀ i, i < acts → AV (ra i)) (hg : ∀ i, i < acts → G 3 (i + 1) = cdA (ra i)) (ht : okR ra acts → ∀ th' pcs' brs' be' po' ro' kf' bg' en', Sim (stR ra acts) acts th' pcs' brs' be' po' ro' kf' bg' en' → Q (some (.int (nI 1))) (mS b pre F G th' pcs' brs' be' po' ro' kf' bg' en')) (hf : ¬ okR ra acts → ∀ th' pcs' brs' be' po' ro' kf' bg' en', (∀ p, p < 9 → ro' p < 1000) → (∀ p q, p < 9 → q < 9 → kf' p q < 1000) → Q (some (.int (nI 0))) (mS b pre F G th' pcs' brs' be' po' ro' kf' bg' en')) : Rn mprog (d + 5) n_M_runs [.ref b, .int (nI acts)] (mS b pre F G th pcs brs be po ro kf bg en) Q := by
  refine Rn.in rfl rfl rfl ?_
  show WP _ _ _ _ 0 [.ref b, .int (nI acts), .long 0] [] (mS b pre F G th pcs brs be po ro kf bg en)
  refine wq_aload_n rfl rfl ?_
  refine wq_virt (b := b) (a := []) (rest := []) rfl rfl rfl rfl rfl (mS_o hb) ?_
  refine r_S_begins hb ?_
  show WP _ _ _ _ 4 [.ref b, .int (nI acts), .long 0] [] (mS b pre F G 0 0 0 (fz 0 be 9) (fz 0 po 9) ro kf bg en)
  refine wq_iconst (v := nI 1) rfl (by decide) ?_
  refine wq_istore_n (lv' := [.ref b, .int (nI acts), .int (nI 1)]) rfl rfl rfl ?_
  exact l_S_runs hb hac hav hg ht hf acts 0 _ _ _ _ _ _ _ _ _ (by omega) (fun i hi => absurd hi (Nat.not_lt_zero i)) (Sim_0 hro hkf)
