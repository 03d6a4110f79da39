/-! A step of the reference's story -/
def Sim (τ : TT) (k th pcs brs : Nat) (be po ro : Nat → Nat) (kf : Nat → Nat → Nat) (bg en : Nat → Nat) : Prop :=
  th = τ.1 ∧ (∀ p, p < 9 → be p = τ.2.2.1 p) ∧ Lab τ.1 τ.2.2.1 po pcs ∧ SK τ.1 τ.2.2.1 τ.2.2.2.1 τ.2.2.2.2.1 po ro kf ∧
  τ.2.2.2.2.2.length = brs ∧ (∀ i, i < brs → τ.2.2.2.2.2[i]? = some (bg i, en i)) ∧ brs + popc pcs 9 ≤ k ∧ (∀ p, p < 9 → ro p < 1000) ∧ ∀ p q, p < 9 → q < 9 → kf p q < 1000
theorem or_xor {x B : Nat} (h : x.testBit B = false) : x ||| 1 <<< B = x ^^^ 1 <<< B := Nat.eq_of_testBit_eq fun t => by
  rw [Nat.testBit_or, Nat.testBit_xor, sh_bit]
  by_cases e : t = B
  · subst e; simp [h]
  · simp [e]
theorem nd_xor {x B : Nat} (h : x.testBit B = true) : nd x (1 <<< B) = x ^^^ 1 <<< B := Nat.eq_of_testBit_eq fun t => by
  rw [nd_bit, Nat.testBit_xor, sh_bit]
  by_cases e : t = B
  · subst e; simp [h]
  · simp [e]
theorem beJ_nrX {be nr : Nat → Nat} {A B : Nat} (h : ∀ p, p < 9 → be p = nr p) (hA : A < 9) (hB : B < 9) (hne : A ≠ B) (h1 : (nr A).testBit B = false) (h2 : (nr B).testBit A = false) : ∀ p, p < 9 → beJ be A B p = nrX nr A B p := fun p hp => by
  unfold beJ nrX
  by_cases e : p = B
  · subst e
    rw [uN_s, uN_s, uN_n (Ne.symm hne), uN_n (Ne.symm hne), h p hp]
    exact or_xor h2
  · rw [uN_n e, uN_n e]
    by_cases e2 : p = A
    · subst e2
      rw [uN_s, uN_s, h p hp]
      exact or_xor h1
    · rw [uN_n e2, uN_n e2]
      exact h p hp
theorem beP_nrX {be nr : Nat → Nat} {A B : Nat} (h : ∀ p, p < 9 → be p = nr p) (hA : A < 9) (hB : B < 9) (hne : A ≠ B) (h1 : (nr A).testBit B = true) (h2 : (nr B).testBit A = true) : ∀ p, p < 9 → beP be A B p = nrX nr A B p := fun p hp => by
  unfold beP nrX
  by_cases e : p = B
  · subst e
    rw [uN_s, uN_s, uN_n (Ne.symm hne), uN_n (Ne.symm hne), h p hp]
    exact nd_xor h2
  · rw [uN_n e, uN_n e]
    by_cases e2 : p = A
    · subst e2
      rw [uN_s, uN_s, h p hp]
      exact nd_xor h1
    · rw [uN_n e2, uN_n e2]
      exact h p hp
theorem ent_snoc {bs : List (Nat × Nat)} {brs x y : Nat} {bg en : Nat → Nat} (hl : bs.length = brs) (h : ∀ i, i < brs → bs[i]? = some (bg i, en i)) : ∀ i, i < brs + 1 → (bs ++ [(x, y)])[i]? = some (uN' bg brs x i, uN' en brs y i) := fun i hi => by
  by_cases e : i = brs
  · subst e
    rw [uN_s, uN_s, ← hl]
    simp
  · rw [uN_n e, uN_n e, List.getElem?_append_left (by omega)]
    exact h i (by omega)
theorem uN_b {g : Nat → Nat} {a v m : Nat} (h : ∀ p, p < 9 → g p < m) (hv : v < m) : ∀ p, p < 9 → uN' g a v p < m := fun p hp => by
  unfold uN'
  split
  · exact hv
  · exact h p hp
theorem pw_b {c : Nat → Bool} {g : Nat → Nat} {v m : Nat} (h : ∀ p, p < 9 → g p < m) (hv : v < m) : ∀ p, p < 9 → pw 9 c (fun _ => v) g p < m := fun p hp => by
  unfold pw
  split
  · exact hv
  · exact h p hp
theorem kz_b {kf : Nat → Nat → Nat} {l m : Nat} (h : ∀ p q, p < 9 → q < 9 → kf p q < m) (hm : 0 < m) : ∀ p q, p < 9 → q < 9 → kz kf l 9 p q < m := fun p q hp hq => by
  unfold kz
  split
  · exact hm
  · exact h p q hp hq
theorem kps_b {kf : Nat → Nat → Nat} {w l v m : Nat} (h : ∀ p q, p < 9 → q < 9 → kf p q < m) (hm : v < m) (hw : w < 9) : ∀ p q, p < 9 → q < 9 → sK (kp kf w l 9) l w v p q < m := fun p q hp hq => by
  unfold sK kp
  split
  · exact hm
  · split
    · split
      · omega
      · exact h w q hw hq
    · split
      · exact h w p hw hp
      · exact h p q hp hq
theorem kbj_b {kf : Nat → Nat → Nat} {pcs pcs' x y c m : Nat} (h : ∀ p q, p < 9 → q < 9 → kf p q < m) (hx : x < 9) (hy : y < 9) : ∀ p q, p < 9 → q < 9 → kj pcs' (kb pcs kf x y c 9 0) x y 9 p q < m := fun p q hp hq => by
  have hk : ∀ p q, p < 9 → q < 9 → kb pcs kf x y c 9 0 p q < m := fun p q hp hq => by
    have h1 := h x p hx hp
    have h2 := h x q hx hq
    have h3 := h y p hy hp
    have h4 := h y q hy hq
    unfold kb
    split
    · omega
    · split
      · omega
      · exact h p q hp hq
  unfold kj
  split
  · exact hk y q hy hq
  · split
    · exact hk y p hy hp
    · exact hk p q hp hq
section SS
variable {τ : TT} {k ac A B th pcs brs : Nat} {be po ro bg en : Nat → Nat} {kf : Nat → Nat → Nat}
theorem Sim_come {l : Nat} (hTV : TV τ k) (hk : k < 40) (hS : Sim τ k th pcs brs be po ro kf bg en) (hA : A < 9) (e8 : ac >>> 8 = 0) (e4 : ac >>> 4 &&& 15 = A) (hn : τ.1.testBit A = false) (hl : l < 9) (hlb : pcs.testBit l = false) :
    Sim (tS ac (k + 1) τ) (k + 1) (th ||| 1 <<< A) (pcs ||| 1 <<< l) brs (uN' be A 0) (uN' po A l) (uN' ro l (k + 1)) (kz kf l 9) bg en := by
  obtain ⟨pts, edg, nr, rt, sc, bs⟩ := τ
  obtain ⟨hT, -, -, -⟩ := hTV
  obtain ⟨s1, s2, s3, s4, s5, s6, s7, s8, s9⟩ := hS
  dsimp only at hT s1 s2 s3 s4 s5 s6 hn
  have et : tS ac (k + 1) (pts, edg, nr, rt, sc, bs) = (pts ^^^ 1 <<< A, edg, nr, uN' rt A (k + 1), sc, bs) := by
    unfold tS
    rw [if_pos e8, e4]
  rw [et]
  have iso := TI_iso hT hA hn
  refine ⟨?_, fun p hp => ?_, Lab_come s3 hT.2.1 hA hn iso hl hlb, SK_come s4 hT s3 hA hn hl hlb, s5, s6, ?_, uN_b s8 (by omega), kz_b s9 (by omega)⟩
  · show th ||| 1 <<< A = pts ^^^ 1 <<< A
    rw [s1]
    exact or_xor hn
  · show uN' be A 0 p = nr p
    by_cases e : p = A
    · subst e
      rw [uN_s]
      exact (Nat.eq_of_testBit_eq fun t => by rw [iso t, Nat.zero_testBit]).symm
    · rw [uN_n e]
      exact s2 p hp
  · rw [popc_or hlb 9 hl]
    omega
theorem Sim_go (hTV : TV τ k) (hS : Sim τ k th pcs brs be po ro kf bg en) (hA : A < 9) (e8 : ac >>> 8 = 1) (e4 : ac >>> 4 &&& 15 = A) (hin : τ.1.testBit A = true) (hn0 : τ.2.2.1 A = 0) :
    Sim (tS ac (k + 1) τ) (k + 1) (nd th (1 <<< A)) (nd pcs (1 <<< po A)) (brs + 1) be po ro kf (uN' bg brs (if mxK pcs (kf (po A)) (po A) 9 = 0 then ro (po A) else mxK pcs (kf (po A)) (po A) 9)) (uN' en brs (k + 1)) := by
  obtain ⟨pts, edg, nr, rt, sc, bs⟩ := τ
  obtain ⟨hT, -, -, -⟩ := hTV
  obtain ⟨s1, s2, s3, s4, s5, s6, s7, s8, s9⟩ := hS
  dsimp only at hT s1 s2 s3 s4 s5 s6 hin hn0
  have iso : ∀ t, (nr A).testBit t = false := fun t => by rw [hn0]; exact Nat.zero_testBit t
  have et : tS ac (k + 1) (pts, edg, nr, rt, sc, bs) = (pts ^^^ 1 <<< A, edg, nr, uN' rt A 0, kz sc A 9, bs ++ [(bG (mxS (pts ^^^ 1 <<< A) (sc A) 9) (rt A), k + 1)]) := by
    unfold tS
    rw [if_neg (by omega), if_pos e8, e4]
  rw [et]
  have bp : ∀ t, (pts ^^^ 1 <<< A).testBit t = true ↔ pts.testBit t = true ∧ t ≠ A := fun t => by
    rw [xor_bit]
    by_cases e : t = A
    · subst e; simp [hin]
    · simp [e]
  have ec : ∀ q, q < 9 → pts.testBit q = true → q ≠ A → ¬ cn nr A q := fun q hq _ z y => z (cn_iso iso y)
  have emx : mxK pcs (kf (po A)) (po A) 9 = mxS (pts ^^^ 1 <<< A) (sc A) 9 := by
    refine mx_eq s3.2.1 (fun q hq hb => ?_) (fun l hl hne => ?_)
    · obtain ⟨r1, r2⟩ := (bp q).mp hb
      have nc := ec q hq r1 r2
      exact ⟨s3.2.2.1 q hq r1, fun z => nc ((s3.2.2.2.2 A q hA hq hin r1).mp z.symm), s4.2 A q hA hq hin r1 nc⟩
    · obtain ⟨q, q1, q2, q3⟩ := s3.2.2.2.1 l hl
      exact ⟨q, q1, (bp q).mpr ⟨q2, fun z => hne (by rw [← q3, z])⟩, q3⟩
  have eb : (if mxK pcs (kf (po A)) (po A) 9 = 0 then ro (po A) else mxK pcs (kf (po A)) (po A) 9) = bG (mxS (pts ^^^ 1 <<< A) (sc A) 9) (rt A) := by
    rw [emx, s4.1 A hA hin]
    unfold bG
    by_cases z : mxS (pts ^^^ 1 <<< A) (sc A) 9 = 0
    · rw [if_pos z, if_neg (by omega)]
    · rw [if_neg z, if_pos (by omega)]
  rw [eb]
  refine ⟨?_, s2, Lab_go s3 hT.2.1 hA hin iso, SK_go s4 hA hin, ?_, ent_snoc s5 s6, ?_, s8, s9⟩
  · show nd th (1 <<< A) = pts ^^^ 1 <<< A
    rw [s1]
    exact nd_xor hin
  · show (bs ++ [_]).length = brs + 1
    rw [List.length_append, List.length_singleton, s5]
  · have := popc_nd (s3.2.1 A hA) (s3.2.2.1 A hA hin)
    omega
theorem Sim_loop (hTV : TV τ k) (hS : Sim τ k th pcs brs be po ro kf bg en) (hA : A < 9) (hB : B < 9) (e8 : ac >>> 8 = 2) (e4 : ac >>> 4 &&& 15 = A) (e0 : ac &&& 15 = B) (hm : mayB τ.1 τ.2.2.1 2 A B = true) (hp : po A = po B) :
    Sim (tS ac (k + 1) τ) (k + 1) th pcs brs (beJ be A B) po ro kf bg en := by
  obtain ⟨pts, edg, nr, rt, sc, bs⟩ := τ
  obtain ⟨hT, -, -, -⟩ := hTV
  obtain ⟨s1, s2, s3, s4, s5, s6, s7, s8, s9⟩ := hS
  dsimp only at hT s1 s2 s3 s4 s5 s6 hm
  obtain ⟨hne, pA, pB, hnb⟩ := may2 hm
  have hG := hT.2.1
  have g' := nrX_Gr hG hA hB hne
  have hx := nrX_on hG hA hB hne hnb
  have hcn : cn nr A B := (s3.2.2.2.2 A B hA hB pA pB).mp hp
  have et : tS ac (k + 1) (pts, edg, nr, rt, sc, bs) = (pts, edg + 1, nrX nr A B, rt, sc, bs) := by
    unfold tS
    dsimp only
    rw [if_neg (by omega), if_neg (by omega), if_pos e8, e4, e0, if_pos ((pOf_bit hG hA).mpr hcn)]
  rw [et]
  have hs : ∀ p q, p < 9 → (cn (nrX nr A B) p q ↔ cn nr p q) := fun p q hp => cn_loop hG g' hA hB hx hcn hp
  have hnb2 : (nr B).testBit A = false := by
    cases q : (nr B).testBit A
    · rfl
    · rw [hG.2.1 B A hB hA q] at hnb; cases hnb
  exact ⟨s1, beJ_nrX s2 hA hB hne hnb hnb2, Lab_same s3 hs, SK_same s4 hs, s5, s6, Nat.le_succ_of_le s7, s8, s9⟩
theorem Sim_join (hTV : TV τ k) (hS : Sim τ k th pcs brs be po ro kf bg en) (hA : A < 9) (hB : B < 9) (e8 : ac >>> 8 = 2) (e4 : ac >>> 4 &&& 15 = A) (e0 : ac &&& 15 = B) (hm : mayB τ.1 τ.2.2.1 2 A B = true) (hp : po A ≠ po B) :
    Sim (tS ac (k + 1) τ) (k + 1) th (nd pcs (1 <<< (po B))) (brs + 1) (beJ be A B) (pw 9 (fun p => th.testBit p && Nat.beq (po p) (po B)) (fun _ => po A) po) (if kf (po A) (po B) = 0 then pw 9 (isR pcs kf (po A) (po B)) (fun _ => min (ro (po A)) (ro (po B))) ro else ro) (kj (nd pcs (1 <<< (po B))) (kb pcs kf (po A) (po B) (kf (po A) (po B)) 9 0) (po A) (po B) 9) (uN' bg brs (if 0 < kf (po A) (po B) then kf (po A) (po B) else ro (po A) + ro (po B) - min (ro (po A)) (ro (po B)))) (uN' en brs (k + 1)) := by
  obtain ⟨pts, edg, nr, rt, sc, bs⟩ := τ
  obtain ⟨hT, -, -, -⟩ := hTV
  obtain ⟨s1, s2, s3, s4, s5, s6, s7, s8, s9⟩ := hS
  dsimp only at hT s1 s2 s3 s4 s5 s6 hm
  obtain ⟨hne, pA, pB, hnb⟩ := may2 hm
  have hG := hT.2.1
  have g' := nrX_Gr hG hA hB hne
  have hx := nrX_on hG hA hB hne hnb
  have hcn : ¬ cn nr A B := fun z => hp ((s3.2.2.2.2 A B hA hB pA pB).mpr z)
  have ekf := s4.2 A B hA hB pA pB hcn
  have et : tS ac (k + 1) (pts, edg, nr, rt, sc, bs) = (pts, edg + 1, nrX nr A B, (if sc A B = 0 then pw 9 (lR (pOf (nrX nr A B) A) (wv (pOf (nrX nr A B) A) (sc A)) (wv (pOf (nrX nr A B) A) (sc B))) (fun _ => min (rt A) (rt B)) rt else rt), sj (sc A B) (pOf (nrX nr A B) A) (wv (pOf (nrX nr A B) A) (sc A)) (wv (pOf (nrX nr A B) A) (sc B)) sc 9, bs ++ [(bG (sc A B) (max (rt A) (rt B)), k + 1)]) := by
    unfold tS
    dsimp only
    rw [if_neg (by omega), if_neg (by omega), if_pos e8, e4, e0, if_neg (fun z => hcn ((pOf_bit hG hA).mp z))]
  rw [et]
  have hnb2 : (nr B).testBit A = false := by
    cases q : (nr B).testBit A
    · rfl
    · rw [hG.2.1 B A hB hA q] at hnb; cases hnb
  have eb : (if 0 < kf (po A) (po B) then kf (po A) (po B) else ro (po A) + ro (po B) - min (ro (po A)) (ro (po B))) = bG (sc A B) (max (rt A) (rt B)) := by
    rw [ekf, s4.1 A hA pA, s4.1 B hB pB]
    unfold bG
    by_cases z : 0 < sc A B
    · rw [if_pos z, if_pos z]
    · rw [if_neg z, if_neg z]
      omega
  rw [eb]
  subst s1
  refine ⟨rfl, beJ_nrX s2 hA hB hne hnb hnb2, Lab_join s3 hG g' hA hB hx pA pB hp, SK_join s4 hT s3 g' hA hB hx pA pB hcn (pOf_J g' hA) (fun x y h1 h2 => sj_scJ h1 h2) (fun x h1 => ?_), ?_, ent_snoc s5 s6, ?_, fun p h9 => ?_, kbj_b s9 (s3.2.1 A hA) (s3.2.1 B hB)⟩
  · dsimp only
    by_cases m0 : sc A B = 0
    · rw [if_pos m0, if_pos m0]
      unfold pw
      by_cases z : (pOf (nrX nr A B) A).testBit x = true ∨ 0 < sc A x ∨ 0 < sc B x
      · rw [if_pos ⟨h1, lR_wv.mpr z⟩, if_pos z]
      · rw [if_neg (fun y => z (lR_wv.mp y.2)), if_neg z]
    · rw [if_neg m0, if_neg m0]
  · show (bs ++ [_]).length = brs + 1
    rw [List.length_append, List.length_singleton, s5]
  · have := popc_nd (s3.2.1 B hB) (s3.2.2.1 B hB pB)
    omega
  · have h1 := s8 _ (s3.2.1 A hA)
    split
    · exact pw_b s8 (by omega) p h9
    · exact s8 p h9
theorem Sim_open {R : Nat} (hTV : TV τ k) (hS : Sim τ k th pcs brs be po ro kf bg en) (hA : A < 9) (hB : B < 9) (e8 : ac >>> 8 = 3) (e4 : ac >>> 4 &&& 15 = A) (e0 : ac &&& 15 = B) (hm : mayB τ.1 τ.2.2.1 3 A B = true) (hR : IsR (beP be A B) B R) (hp : R.testBit A = true) :
    Sim (tS ac (k + 1) τ) (k + 1) th pcs brs (beP be A B) po ro kf bg en := by
  obtain ⟨pts, edg, nr, rt, sc, bs⟩ := τ
  obtain ⟨hT, -, -, -⟩ := hTV
  obtain ⟨s1, s2, s3, s4, s5, s6, s7, s8, s9⟩ := hS
  dsimp only at hT s1 s2 s3 s4 s5 s6 hm
  have hG := hT.2.1
  have hnb := may3 hm
  have hnb2 := hG.2.1 A B hA hB hnb
  have hne : A ≠ B := fun z => by rw [← z, hG.2.2 A hA] at hnb; cases hnb
  have g' := nrX_Gr hG hA hB hne
  have hx := nrX_off hG hA hB hne hnb
  have hbe := beP_nrX s2 hA hB hne hnb hnb2
  have hcn : cn (nrX nr A B) A B := cn_symm g' hB (fun S a c => (cn_R hR).mp hp S a (ClR_congr (fun p h9 => (hbe p h9).symm) c))
  have et : tS ac (k + 1) (pts, edg, nr, rt, sc, bs) = (pts, edg - 1, nrX nr A B, rt, sc, bs) := by
    unfold tS
    dsimp only
    rw [if_neg (by omega), if_neg (by omega), if_neg (by omega), e4, e0, if_pos ((pOf_bit g' hA).mpr hcn)]
  rw [et]
  have hs : ∀ p q, p < 9 → (cn (nrX nr A B) p q ↔ cn nr p q) := fun p q hp => (cn_loop g' hG hA hB hx hcn hp).symm
  exact ⟨s1, hbe, Lab_same s3 hs, SK_same s4 hs, s5, s6, Nat.le_succ_of_le s7, s8, s9⟩
theorem Sim_part {R l : Nat} (hTV : TV τ k) (hk : k < 40) (hS : Sim τ k th pcs brs be po ro kf bg en) (hA : A < 9) (hB : B < 9) (e8 : ac >>> 8 = 3) (e4 : ac >>> 4 &&& 15 = A) (e0 : ac &&& 15 = B) (hm : mayB τ.1 τ.2.2.1 3 A B = true) (hR : IsR (beP be A B) B R) (hp : R.testBit A = false) (hl : l < 9) (hlb : pcs.testBit l = false) :
    Sim (tS ac (k + 1) τ) (k + 1) th (pcs ||| 1 <<< l) brs (beP be A B) (pw 9 (fun q => R.testBit q) (fun _ => l) po) (uN' ro l (ro (po A))) (sK (kp kf (po A) l 9) l (po A) (k + 1)) bg en := by
  obtain ⟨pts, edg, nr, rt, sc, bs⟩ := τ
  obtain ⟨hT, -, -, -⟩ := hTV
  obtain ⟨s1, s2, s3, s4, s5, s6, s7, s8, s9⟩ := hS
  dsimp only at hT s1 s2 s3 s4 s5 s6 hm
  have hG := hT.2.1
  have hnb := may3 hm
  have hnb2 := hG.2.1 A B hA hB hnb
  have hne : A ≠ B := fun z => by rw [← z, hG.2.2 A hA] at hnb; cases hnb
  have g' := nrX_Gr hG hA hB hne
  have hx := nrX_off hG hA hB hne hnb
  have hbe := beP_nrX s2 hA hB hne hnb hnb2
  have pA := hT.2.2.1 A B hA hnb
  have pB := hT.2.2.1 B A hB hnb2
  have hR2 : ∀ x, R.testBit x = true ↔ cn (nrX nr A B) B x := fun x => by
    rw [cn_R hR]
    exact ⟨fun z S a c => z S a (ClR_congr (fun p h9 => (hbe p h9).symm) c), fun z S a c => z S a (ClR_congr hbe c)⟩
  have hcn : ¬ cn (nrX nr A B) A B := fun z => by
    have := (hR2 A).mpr (cn_symm g' hA z)
    rw [hp] at this
    cases this
  have et : tS ac (k + 1) (pts, edg, nr, rt, sc, bs) = (pts, edg - 1, nrX nr A B, rt, kP sc (pOf (nrX nr A B) A) (pOf (nrX nr A B) B) (k + 1) 9, bs) := by
    unfold tS
    dsimp only
    rw [if_neg (by omega), if_neg (by omega), if_neg (by omega), e4, e0, if_neg (fun z => hcn ((pOf_bit g' hA).mp z))]
  rw [et]
  refine ⟨s1, hbe, Lab_part s3 hG g' hA hB hx pA pB hcn hR2 hl hlb, SK_part s4 hT s3 g' hA hB hx pA pB hcn hR2 (pOf_J g' hA) (pOf_J g' hB) hl hlb, s5, s6, ?_, uN_b s8 (s8 _ (s3.2.1 A hA)), kps_b s9 (by omega) (s3.2.1 A hA)⟩
  rw [popc_or hlb 9 hl]
  omega
end SS
