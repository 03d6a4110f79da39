/-! the reference's story: joins, does, runs -/
theorem l_S_joinsR' {d b : Nat} {pre : mH} {F : Nat → Nat} {G : Nat → Nat → Nat} {th pcs brs : Nat} {be po ro bg en : Nat → Nat} {kf : Nat → Nat → Nat} {Q : Option Value → mH → Prop} (hb : pre.length = b) {a bb num one oth sn le gr : Nat} (h1 : one < 9) (h2 : oth < 9) (hp : pcs < 512) (hk : ∀ p q, p < 9 → q < 9 → kf p q < 1000) (k : ∀ x9 x10 : Value, WP (Rn mprog (d + 2)) k_M_joins none Q 231 [.ref b, .int (nI a), .int (nI bb), .int (nI num), .int (nI one), .int (nI oth), .int (nI sn), .int (nI le), .int (nI gr), x9, x10] [] (mS b pre F G th pcs brs be po (pw 9 (isR pcs kf one oth) (fun _ => le) ro) kf bg en)) (x10 : Value) : WP (Rn mprog (d + 2)) k_M_joins none Q 139 [.ref b, .int (nI a), .int (nI bb), .int (nI num), .int (nI one), .int (nI oth), .int (nI sn), .int (nI le), .int (nI gr), .int (nI 0), x10] [] (mS b pre F G th pcs brs be po ro kf bg en) := by
  have q := l_S_joinsR (d := d) hb h1 h2 hp hk k 9 0 x10 rfl
  rw [pw_0] at q
  exact q
theorem l_S_joinsK' {d b : Nat} {pre : mH} {F : Nat → Nat} {G : Nat → Nat → Nat} {th pcs brs : Nat} {be po ro bg en : Nat → Nat} {kf : Nat → Nat → Nat} {Q : Option Value → mH → Prop} (hb : pre.length = b) {a bb num one oth sn le gr : Nat} (h1 : one < 9) (h2 : oth < 9) (hp : pcs < 512) (hk : ∀ p q, p < 9 → q < 9 → kf p q < 1000) (k : ∀ x9 x10 : Value, WP (Rn mprog (d + 2)) k_M_joins none Q 326 [.ref b, .int (nI a), .int (nI bb), .int (nI num), .int (nI one), .int (nI oth), .int (nI sn), .int (nI le), .int (nI gr), x9, x10] [] (mS b pre F G th pcs brs be po ro (kj pcs kf one oth 9) bg en)) (x10 : Value) : WP (Rn mprog (d + 2)) k_M_joins none Q 259 [.ref b, .int (nI a), .int (nI bb), .int (nI num), .int (nI one), .int (nI oth), .int (nI sn), .int (nI le), .int (nI gr), .int (nI 0), x10] [] (mS b pre F G th pcs brs be po ro kf bg en) := by
  have q := l_S_joinsK (d := d) hb h1 h2 hp hk k 9 0 rfl x10
  rw [kj_0] at q
  exact q
theorem l_S_joinsP' {d b : Nat} {pre : mH} {F : Nat → Nat} {G : Nat → Nat → Nat} {th pcs brs : Nat} {be po ro bg en : Nat → Nat} {kf : Nat → Nat → Nat} {Q : Option Value → mH → Prop} (hb : pre.length = b) {a bb num one oth sn le gr : Nat} (h1 : one < 9) (h2 : oth < 9) (hp : pcs < 512) (hk : ∀ p q, p < 9 → q < 9 → kf p q < 1000) (hth : th < 512) (hpo : ∀ p, p < 9 → po p < 9) (hQ : Q none (mS b pre F G th pcs brs be (pw 9 (fun p => th.testBit p && Nat.beq (po p) oth) (fun _ => one) po) ro kf bg en)) (x10 : Value) : WP (Rn mprog (d + 2)) k_M_joins none Q 329 [.ref b, .int (nI a), .int (nI bb), .int (nI num), .int (nI one), .int (nI oth), .int (nI sn), .int (nI le), .int (nI gr), .int (nI 0), x10] [] (mS b pre F G th pcs brs be po ro kf bg en) := by
  have q := l_S_joinsP (d := d) (a := a) (bb := bb) (num := num) (sn := sn) (le := le) (gr := gr) hb h1 h2 hp hk hth hpo hQ 9 0 rfl x10
  rw [pw_0] at q
  exact q
theorem kb_lt {pcs : Nat} {kf : Nat → Nat → Nat} {one oth c i j m : Nat} (h1 : one < 9) (h2 : oth < 9) (hk : ∀ p q, p < 9 → q < 9 → kf p q < m) : ∀ p q, p < 9 → q < 9 → kb pcs kf one oth c i j p q < m := by
  intro p q hp hq
  unfold kb
  have a1 := hk one p h1 hp
  have a2 := hk one q h1 hq
  have a3 := hk p q hp hq
  split
  · exact Nat.lt_of_le_of_lt (Nat.min_le_left _ _) a1
  · split
    · exact Nat.lt_of_le_of_lt (Nat.min_le_left _ _) a2
    · exact a3
def beJ (be : Nat → Nat) (a bb : Nat) : Nat → Nat := uN' (uN' be a (be a ||| 1 <<< bb)) bb (uN' be a (be a ||| 1 <<< bb) bb ||| 1 <<< a)
theorem kj_lt {pcs : Nat} {kf : Nat → Nat → Nat} {one oth i m : Nat} (h1 : one < 9) (h2 : oth < 9) (hk : ∀ p q, p < 9 → q < 9 → kf p q < m) : ∀ p q, p < 9 → q < 9 → kj pcs kf one oth i p q < m := by
  intro p q hp hq
  unfold kj
  split
  · exact hk oth q h2 hq
  · split
    · exact hk oth p h2 hp
    · exact hk p q hp hq
theorem r_S_joins {d b : Nat} {pre : mH} {F : Nat → Nat} {G : Nat → Nat → Nat} {th pcs brs : Nat} {be po ro bg en : Nat → Nat} {kf : Nat → Nat → Nat} {Q : Option Value → mH → Prop} (hb : pre.length = b) {a bb num : Nat} (ha : a < 9) (hbb : bb < 9) (hab : a ≠ bb) (hth : th < 512) (hp : pcs < 512) (hbr : brs < 60) (hpo : ∀ p, p < 9 → po p < 9) (hro : ∀ p, p < 9 → ro p < 1000) (hk : ∀ p q, p < 9 → q < 9 → kf p q < 1000) (hex : po a ≠ po bb → ∀ x, bA pcs kf (po a) (po bb) (kf (po a) (po bb)) x = true → bB pcs kf (po a) (po bb) (kf (po a) (po bb)) x = true → False) (hQ1 : po a = po bb → Q none (mS b pre F G th pcs brs (beJ be a bb) po ro kf bg en)) (hQ2 : po a ≠ po bb → Q none (mS b pre F G th (nd pcs (1 <<< (po bb))) (brs + 1) (beJ be a bb) (pw 9 (fun p => th.testBit p && Nat.beq (po p) (po bb)) (fun _ => po a) po) (if kf (po a) (po bb) = 0 then pw 9 (isR pcs kf (po a) (po bb)) (fun _ => min (ro (po a)) (ro (po bb))) ro else ro) (kj (nd pcs (1 <<< (po bb))) (kb pcs kf (po a) (po bb) (kf (po a) (po bb)) 9 0) (po a) (po bb) 9) (uN' bg brs (if 0 < kf (po a) (po bb) then kf (po a) (po bb) else ro (po a) + ro (po bb) - min (ro (po a)) (ro (po bb)))) (uN' en brs num))) : Rn mprog (d + 3) n_M_joins [.ref b, .int (nI a), .int (nI bb), .int (nI num)] (mS b pre F G th pcs brs be po ro kf bg en) Q := by
  refine Rn.in rfl rfl rfl ?_
  show WP _ _ _ _ 0 [.ref b, .int (nI a), .int (nI bb), .int (nI num), .long 0, .long 0, .long 0, .long 0, .long 0, .long 0, .long 0] [] (mS b pre F G th pcs brs be po ro kf bg en)
  have hsa := Nat.lt_trans (sh_lt (n := 9) ha) (show 2 ^ 9 < 2 ^ 32 by decide)
  have hsb := Nat.lt_trans (sh_lt (n := 9) hbb) (show 2 ^ 9 < 2 ^ 32 by decide)
  have hp1 := hpo a ha
  have hp2 := hpo bb hbb
  have hr1 := hro _ hp1
  have hr2 := hro _ hp2
  have hk12 := hk _ _ hp1 hp2
  have hso := Nat.lt_trans (sh_lt (n := 9) hp2) (show 2 ^ 9 < 2 ^ 32 by decide)
  refine wq_aload_n rfl rfl ?_
  refine wq_getfield (v := .ref (b + 5)) rfl (mS_o hb) rfl ?_
  refine wq_iload_n rfl rfl ?_
  refine wq_dup2 rfl rfl rfl ?_
  refine wn_iaload (g := be) rfl (mS_a9 hb) (by omega) (by decide) ?_
  refine wq_iconst (v := nI 1) rfl (by decide) ?_
  refine wq_iload_n rfl rfl ?_
  refine wn_ishl rfl (by omega) hsb ?_
  refine wn_ior rfl ?_
  refine wn_iastore (g := be) (h' := mS b pre F G th pcs brs (uN' be a ((be a) ||| (1 <<< bb))) po ro kf bg en) rfl (mS_a9 hb) (by omega) (by decide) (mS_t9 hb) ?_
  refine wq_aload_n rfl rfl ?_
  refine wq_getfield (v := .ref (b + 5)) rfl (mS_o hb) rfl ?_
  refine wq_iload_n rfl rfl ?_
  refine wq_dup2 rfl rfl rfl ?_
  refine wn_iaload (g := (uN' be a ((be a) ||| (1 <<< bb)))) rfl (mS_a9 hb) (by omega) (by decide) ?_
  refine wq_iconst (v := nI 1) rfl (by decide) ?_
  refine wq_iload_n rfl rfl ?_
  refine wn_ishl rfl (by omega) hsa ?_
  refine wn_ior rfl ?_
  refine wn_iastore (g := (uN' be a ((be a) ||| (1 <<< bb)))) (h' := mS b pre F G th pcs brs (uN' ((uN' be a ((be a) ||| (1 <<< bb)))) bb ((((uN' be a ((be a) ||| (1 <<< bb)))) bb) ||| (1 <<< a))) po ro kf bg en) rfl (mS_a9 hb) (by omega) (by decide) (mS_t9 hb) ?_
  refine wq_aload_n rfl rfl ?_
  refine wq_getfield (v := .ref (b + 6)) rfl (mS_o hb) rfl ?_
  refine wq_iload_n rfl rfl ?_
  refine wn_iaload (g := po) rfl (mS_a10 hb) (by omega) (by decide) ?_
  refine wq_istore (lv' := [.ref b, .int (nI a), .int (nI bb), .int (nI num), .int (nI (po a)), .long 0, .long 0, .long 0, .long 0, .long 0, .long 0]) rfl rfl rfl ?_
  refine wq_aload_n rfl rfl ?_
  refine wq_getfield (v := .ref (b + 6)) rfl (mS_o hb) rfl ?_
  refine wq_iload_n rfl rfl ?_
  refine wn_iaload (g := po) rfl (mS_a10 hb) (by omega) (by decide) ?_
  refine wq_istore (lv' := [.ref b, .int (nI a), .int (nI bb), .int (nI num), .int (nI (po a)), .int (nI (po bb)), .long 0, .long 0, .long 0, .long 0, .long 0]) rfl rfl rfl ?_
  refine wq_iload rfl rfl ?_
  refine wq_iload rfl rfl ?_
  refine wn_ic_ne rfl (by omega) (by omega) (fun c44 => ?_) (fun c44 => ?_)
  · skip
    refine wq_aload_n rfl rfl ?_
    refine wq_iload rfl rfl ?_
    refine wq_iload rfl rfl ?_
    refine wq_virt (b := b) (a := [.int (nI (po a)), .int (nI (po bb))]) (rest := []) rfl rfl rfl rfl rfl (mS_o hb) ?_
    refine r_S_kinOf hb (by omega) (by omega) ?_
    show WP _ _ _ _ 56 [.ref b, .int (nI a), .int (nI bb), .int (nI num), .int (nI (po a)), .int (nI (po bb)), .long 0, .long 0, .long 0, .long 0, .long 0] [.int (nI (kf (po a) (po bb)))] (mS b pre F G th pcs brs (uN' ((uN' be a ((be a) ||| (1 <<< bb)))) bb ((((uN' be a ((be a) ||| (1 <<< bb)))) bb) ||| (1 <<< a))) po ro kf bg en)
    refine wq_istore (lv' := [.ref b, .int (nI a), .int (nI bb), .int (nI num), .int (nI (po a)), .int (nI (po bb)), .int (nI (kf (po a) (po bb))), .long 0, .long 0, .long 0, .long 0]) rfl rfl rfl ?_
    have K92 : WP (Rn mprog (d + 2)) k_M_joins none Q 92 [.ref b, .int (nI a), .int (nI bb), .int (nI num), .int (nI (po a)), .int (nI (po bb)), .int (nI (kf (po a) (po bb))), .long 0, .long 0, .long 0, .long 0] [.int (nI (min (ro (po a)) (ro (po bb))))] (mS b pre F G th pcs brs (uN' ((uN' be a ((be a) ||| (1 <<< bb)))) bb ((((uN' be a ((be a) ||| (1 <<< bb)))) bb) ||| (1 <<< a))) po ro kf bg en) := by
      refine wq_istore (lv' := [.ref b, .int (nI a), .int (nI bb), .int (nI num), .int (nI (po a)), .int (nI (po bb)), .int (nI (kf (po a) (po bb))), .int (nI (min (ro (po a)) (ro (po bb)))), .long 0, .long 0, .long 0]) rfl rfl rfl ?_
      refine wq_aload_n rfl rfl ?_
      refine wq_getfield (v := .ref (b + 7)) rfl (mS_o hb) rfl ?_
      refine wq_iload rfl rfl ?_
      refine wn_iaload (g := ro) rfl (mS_a12 hb) (by omega) (by decide) ?_
      refine wq_aload_n rfl rfl ?_
      refine wq_getfield (v := .ref (b + 7)) rfl (mS_o hb) rfl ?_
      refine wq_iload rfl rfl ?_
      refine wn_iaload (g := ro) rfl (mS_a12 hb) (by omega) (by decide) ?_
      refine wn_iadd rfl ?_
      refine wq_iload rfl rfl ?_
      refine wn_isub rfl (by omega) ?_
      refine wq_istore (lv' := [.ref b, .int (nI a), .int (nI bb), .int (nI num), .int (nI (po a)), .int (nI (po bb)), .int (nI (kf (po a) (po bb))), .int (nI (min (ro (po a)) (ro (po bb)))), .int (nI (((ro (po a)) + (ro (po bb))) - (min (ro (po a)) (ro (po bb))))), .long 0, .long 0]) rfl rfl rfl ?_
      have K127 : WP (Rn mprog (d + 2)) k_M_joins none Q 127 [.ref b, .int (nI a), .int (nI bb), .int (nI num), .int (nI (po a)), .int (nI (po bb)), .int (nI (kf (po a) (po bb))), .int (nI (min (ro (po a)) (ro (po bb)))), .int (nI (((ro (po a)) + (ro (po bb))) - (min (ro (po a)) (ro (po bb))))), .long 0, .long 0] [.int (nI (if 0 < kf (po a) (po bb) then kf (po a) (po bb) else ro (po a) + ro (po bb) - min (ro (po a)) (ro (po bb)))), .ref b] (mS b pre F G th pcs brs (uN' ((uN' be a ((be a) ||| (1 <<< bb)))) bb ((((uN' be a ((be a) ||| (1 <<< bb)))) bb) ||| (1 <<< a))) po ro kf bg en) := by
        refine wq_iload_n rfl rfl ?_
        refine wq_virt (b := b) (a := [.int (nI (if 0 < kf (po a) (po bb) then kf (po a) (po bb) else ro (po a) + ro (po bb) - min (ro (po a)) (ro (po bb)))), .int (nI num)]) (rest := []) rfl rfl rfl rfl rfl (mS_o hb) ?_
        refine r_S_ends hb (by omega) ?_
        show WP _ _ _ _ 131 [.ref b, .int (nI a), .int (nI bb), .int (nI num), .int (nI (po a)), .int (nI (po bb)), .int (nI (kf (po a) (po bb))), .int (nI (min (ro (po a)) (ro (po bb)))), .int (nI (((ro (po a)) + (ro (po bb))) - (min (ro (po a)) (ro (po bb))))), .long 0, .long 0] [] (mS b pre F G th pcs (brs + 1) (uN' ((uN' be a ((be a) ||| (1 <<< bb)))) bb ((((uN' be a ((be a) ||| (1 <<< bb)))) bb) ||| (1 <<< a))) po ro kf (uN' bg brs (if 0 < kf (po a) (po bb) then kf (po a) (po bb) else ro (po a) + ro (po bb) - min (ro (po a)) (ro (po bb)))) (uN' en brs num))
        have K231 : ∀ x9 x10 : Value, WP (Rn mprog (d + 2)) k_M_joins none Q 231 [.ref b, .int (nI a), .int (nI bb), .int (nI num), .int (nI (po a)), .int (nI (po bb)), .int (nI (kf (po a) (po bb))), .int (nI (min (ro (po a)) (ro (po bb)))), .int (nI (((ro (po a)) + (ro (po bb))) - (min (ro (po a)) (ro (po bb))))), x9, x10] [] (mS b pre F G th pcs (brs + 1) (uN' ((uN' be a ((be a) ||| (1 <<< bb)))) bb ((((uN' be a ((be a) ||| (1 <<< bb)))) bb) ||| (1 <<< a))) po (if kf (po a) (po bb) = 0 then pw 9 (isR pcs kf (po a) (po bb)) (fun _ => min (ro (po a)) (ro (po bb))) ro else ro) kf (uN' bg brs (if 0 < kf (po a) (po bb) then kf (po a) (po bb) else ro (po a) + ro (po bb) - min (ro (po a)) (ro (po bb)))) (uN' en brs num)) := by
          intro x9 x10
          refine wq_aload_n rfl rfl ?_
          refine wq_iload rfl rfl ?_
          refine wq_iload rfl rfl ?_
          refine wq_iload rfl rfl ?_
          refine wq_virt (b := b) (a := [.int (nI (po a)), .int (nI (po bb)), .int (nI (kf (po a) (po bb)))]) (rest := []) rfl rfl rfl rfl rfl (mS_o hb) ?_
          refine r_S_binds hb (by omega) (by omega) (by omega) hp hk (hex c44) ?_
          show WP _ _ _ _ 241 [.ref b, .int (nI a), .int (nI bb), .int (nI num), .int (nI (po a)), .int (nI (po bb)), .int (nI (kf (po a) (po bb))), .int (nI (min (ro (po a)) (ro (po bb)))), .int (nI (((ro (po a)) + (ro (po bb))) - (min (ro (po a)) (ro (po bb))))), x9, x10] [] (mS b pre F G th pcs (brs + 1) (uN' ((uN' be a ((be a) ||| (1 <<< bb)))) bb ((((uN' be a ((be a) ||| (1 <<< bb)))) bb) ||| (1 <<< a))) po (if kf (po a) (po bb) = 0 then pw 9 (isR pcs kf (po a) (po bb)) (fun _ => min (ro (po a)) (ro (po bb))) ro else ro) (kb pcs kf (po a) (po bb) (kf (po a) (po bb)) 9 0) (uN' bg brs (if 0 < kf (po a) (po bb) then kf (po a) (po bb) else ro (po a) + ro (po bb) - min (ro (po a)) (ro (po bb)))) (uN' en brs num))
          refine wq_aload_n rfl rfl ?_
          refine wq_dup rfl rfl ?_
          refine wq_getfield (v := .int (nI pcs)) rfl (mS_o hb) rfl ?_
          refine wq_iconst (v := nI 1) rfl (by decide) ?_
          refine wq_iload rfl rfl ?_
          refine wn_ishl rfl (by omega) hso ?_
          refine wq_iconst (v := (-1)) rfl (by decide) ?_
          refine wq_ixor (v := (nI (1 <<< (po bb)) ^^^ (-1))) rfl rfl ?_
          refine wn_andn rfl ?_
          refine wq_putfield (h' := mS b pre F G th (nd pcs (1 <<< (po bb))) (brs + 1) (uN' ((uN' be a ((be a) ||| (1 <<< bb)))) bb ((((uN' be a ((be a) ||| (1 <<< bb)))) bb) ||| (1 <<< a))) po (if kf (po a) (po bb) = 0 then pw 9 (isR pcs kf (po a) (po bb)) (fun _ => min (ro (po a)) (ro (po bb))) ro else ro) (kb pcs kf (po a) (po bb) (kf (po a) (po bb)) 9 0) (uN' bg brs (if 0 < kf (po a) (po bb) then kf (po a) (po bb) else ro (po a) + ro (po bb) - min (ro (po a)) (ro (po bb)))) (uN' en brs num)) rfl (mS_o hb) rfl (mS_s11 hb) ?_
          refine wq_iconst (v := nI 0) rfl (by decide) ?_
          refine wq_istore (lv' := [.ref b, .int (nI a), .int (nI bb), .int (nI num), .int (nI (po a)), .int (nI (po bb)), .int (nI (kf (po a) (po bb))), .int (nI (min (ro (po a)) (ro (po bb)))), .int (nI (((ro (po a)) + (ro (po bb))) - (min (ro (po a)) (ro (po bb))))), .int (nI 0), x10]) rfl rfl rfl ?_
          refine l_S_joinsK' (kf := kb pcs kf (po a) (po bb) (kf (po a) (po bb)) 9 0) hb hp1 hp2 (nd_lt (n := 9) hp) (kb_lt hp1 hp2 hk) (fun x9 x10 => ?_) _
          refine wq_iconst (v := nI 0) rfl (by decide) ?_
          refine wq_istore (lv' := [.ref b, .int (nI a), .int (nI bb), .int (nI num), .int (nI (po a)), .int (nI (po bb)), .int (nI (kf (po a) (po bb))), .int (nI (min (ro (po a)) (ro (po bb)))), .int (nI (((ro (po a)) + (ro (po bb))) - (min (ro (po a)) (ro (po bb))))), .int (nI 0), x10]) rfl rfl rfl ?_
          exact l_S_joinsP' (pcs := nd pcs (1 <<< (po bb))) (kf := kj (nd pcs (1 <<< (po bb))) (kb pcs kf (po a) (po bb) (kf (po a) (po bb)) 9 0) (po a) (po bb) 9) hb hp1 hp2 (nd_lt (n := 9) hp) (kj_lt hp1 hp2 (kb_lt hp1 hp2 hk)) hth hpo (hQ2 c44) _
        refine wq_iload rfl rfl ?_
        refine wn_if_ne rfl (by omega) (fun c133 => ?_) (fun c133 => ?_)
        · skip
          have K := K231 (.long 0) (.long 0)
          rw [if_neg c133] at K
          exact K
        · skip
          refine wq_iconst (v := nI 0) rfl (by decide) ?_
          refine wq_istore (lv' := [.ref b, .int (nI a), .int (nI bb), .int (nI num), .int (nI (po a)), .int (nI (po bb)), .int (nI (kf (po a) (po bb))), .int (nI (min (ro (po a)) (ro (po bb)))), .int (nI (((ro (po a)) + (ro (po bb))) - (min (ro (po a)) (ro (po bb))))), .int (nI 0), .long 0]) rfl rfl rfl ?_
          refine l_S_joinsR' hb hp1 hp2 hp hk (fun x9 x10 => ?_) _
          have K := K231 x9 x10
          rw [if_pos c133] at K
          exact K
      refine wq_aload_n rfl rfl ?_
      refine wq_iload rfl rfl ?_
      refine wn_if_le rfl (by omega) (fun c117 => ?_) (fun c117 => ?_)
      · skip
        refine wq_iload rfl rfl ?_
        rw [if_neg (by omega)] at K127
        exact K127
      · skip
        refine wq_iload rfl rfl ?_
        refine wq_goto rfl ?_
        rw [if_pos c117] at K127
        exact K127
    refine wq_aload_n rfl rfl ?_
    refine wq_getfield (v := .ref (b + 7)) rfl (mS_o hb) rfl ?_
    refine wq_iload rfl rfl ?_
    refine wn_iaload (g := ro) rfl (mS_a12 hb) (by omega) (by decide) ?_
    refine wq_aload_n rfl rfl ?_
    refine wq_getfield (v := .ref (b + 7)) rfl (mS_o hb) rfl ?_
    refine wq_iload rfl rfl ?_
    refine wn_iaload (g := ro) rfl (mS_a12 hb) (by omega) (by decide) ?_
    refine wn_ic_ge rfl (by omega) (by omega) (fun c72 => ?_) (fun c72 => ?_)
    · skip
      refine wq_aload_n rfl rfl ?_
      refine wq_getfield (v := .ref (b + 7)) rfl (mS_o hb) rfl ?_
      refine wq_iload rfl rfl ?_
      refine wn_iaload (g := ro) rfl (mS_a12 hb) (by omega) (by decide) ?_
      have e : ro (po bb) = min (ro (po a)) (ro (po bb)) := by omega
      rw [e]
      exact K92
    · skip
      refine wq_aload_n rfl rfl ?_
      refine wq_getfield (v := .ref (b + 7)) rfl (mS_o hb) rfl ?_
      refine wq_iload rfl rfl ?_
      refine wn_iaload (g := ro) rfl (mS_a12 hb) (by omega) (by decide) ?_
      refine wq_goto rfl ?_
      have e : ro (po a) = min (ro (po a)) (ro (po bb)) := by omega
      rw [e]
      exact K92
  · skip
    refine wq_vret rfl rfl ?_
    exact hQ1 c44
