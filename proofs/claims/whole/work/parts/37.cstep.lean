/-! The class's step is the story's step -/
def srt (bs : List (Nat × Nat)) : List (Nat × Nat) := bs.foldl (fun l x => insR x l) []
theorem srt_snoc (bs : List (Nat × Nat)) (x : Nat × Nat) : srt (bs ++ [x]) = insR x (srt bs) := by
  unfold srt
  rw [List.foldl_append]
  rfl
theorem ins_len (bs : List (Nat × Nat)) : ∀ l, (bs.foldl (fun l x => insR x l) l).length = l.length + bs.length := by
  induction bs with
  | nil => intro l; rfl
  | cons x bs ih =>
    intro l
    rw [List.foldl_cons, ih, insR_len, List.length_cons]
    omega
theorem srt_len (bs : List (Nat × Nat)) : (srt bs).length = bs.length := by
  unfold srt
  rw [ins_len]
  simp
section CS
variable {d b : Nat} {pre suf : mH} {pts edg : Nat} {nr rt : Nat → Nat} {sc : Nat → Nat → Nat} {wf ws : Nat → Nat} {bsz bop : Nat} {bbg ben : Nat → Nat} {Q : Option Value → mH → Prop}
set_option maxHeartbeats 1000000 in
theorem r_Sto_stepT (hb : pre.length = b) {ac k : Nat} {bs : List (Nat × Nat)} (hTV : TV (pts, edg, nr, rt, sc, bs) k) (hk : k < 40) (ha : AV ac) (hm : mayB pts nr (ac >>> 8) (ac >>> 4 &&& 15) (ac &&& 15) = true) (hBL : BL bsz bbg ben (srt bs)) (hbv : ∀ i, i < 40 → bbg i < 2 ^ 31 ∧ ben i < 2 ^ 31)
    (hQ : ∀ wf' ws' bsz' bbg' ben', BL bsz' bbg' ben' (srt (tS ac (k + 1) (pts, edg, nr, rt, sc, bs)).2.2.2.2.2) → (∀ i, i < 40 → bbg' i < 2 ^ 31 ∧ ben' i < 2 ^ 31) → Q none (sW b pre (tS ac (k + 1) (pts, edg, nr, rt, sc, bs)).1 (tS ac (k + 1) (pts, edg, nr, rt, sc, bs)).2.1 (tS ac (k + 1) (pts, edg, nr, rt, sc, bs)).2.2.1 (tS ac (k + 1) (pts, edg, nr, rt, sc, bs)).2.2.2.1 (tS ac (k + 1) (pts, edg, nr, rt, sc, bs)).2.2.2.2.1 wf' ws' bsz' bop bbg' ben' suf)) :
    Rn mprog (d + 5) n_Sto_step [.ref b, .int (nI ac), .int (nI (k + 1))] (sW b pre pts edg nr rt sc wf ws bsz bop bbg ben suf) Q := by
  obtain ⟨hT, hE, ⟨po, pcs, hL, hc⟩, hbb⟩ := hTV
  obtain ⟨a1, hA, hB, hab⟩ := ha
  dsimp only at hT hE hL hc hbb
  have hk4 : ac >>> 8 < 4 := by rw [Nat.shiftRight_eq_div_pow]; omega
  have hG := hT.2.1
  have hpt := hT.1
  have hsc : ∀ p q, p < 9 → q < 9 → sc p q < 1000 := fun p q hp hq => by have := hT.2.2.2.2.2.2.2.2.1 p q hp hq; omega
  have hrt : ∀ p, p < 9 → rt p < 1000 := fun p hp => by have := hT.2.2.2.2.2.2.2.2.2.1 p hp; omega
  have hbz : bsz = bs.length := by rw [← hBL.1, srt_len]
  have hbs : bsz < 40 := by omega
  have n99 : ¬ k + 1 = 99 := by omega
  rcases (show ac >>> 8 = 0 ∨ ac >>> 8 = 1 ∨ ac >>> 8 = 2 ∨ ac >>> 8 = 3 by omega) with e | e | e | e
  · rw [e] at hm
    have hn := may0 hm
    have et : tS ac (k + 1) (pts, edg, nr, rt, sc, bs) = (pts ^^^ 1 <<< (ac >>> 4 &&& 15), edg, nr, uN' rt (ac >>> 4 &&& 15) (k + 1), sc, bs) := by
      unfold tS
      rw [if_pos e]
    rw [et] at hQ
    dsimp only at hQ
    exact r_Sto_step0 hb a1 hA hB (by omega) hpt hG.1 e (hab (by omega)) hn (xor_lt hpt hA) (by rw [xor_bit, hn, decide_eq_true rfl]; rfl) (hQ wf ws bsz bbg ben hBL hbv)
  · rw [e] at hm
    obtain ⟨hin, hn0⟩ := may1 hm
    have et : tS ac (k + 1) (pts, edg, nr, rt, sc, bs) = (pts ^^^ 1 <<< (ac >>> 4 &&& 15), edg, nr, uN' rt (ac >>> 4 &&& 15) 0, kz sc (ac >>> 4 &&& 15) 9, bs ++ [(bG (mxS (pts ^^^ 1 <<< (ac >>> 4 &&& 15)) (sc (ac >>> 4 &&& 15)) 9) (rt (ac >>> 4 &&& 15)), k + 1)]) := by
      unfold tS
      rw [if_neg (by omega), if_pos e]
    rw [et] at hQ
    dsimp only at hQ
    rw [srt_snoc] at hQ
    refine r_Sto_step1 hb a1 hA hB (by omega) hpt hG.1 hbs hbv hsc hrt e (hab (by omega)) hin (xor_lt hpt hA) (by rw [xor_bit, hin, decide_eq_true rfl]; rfl) (fun p hp1 hp2 hp3 => ?_)
    rw [if_neg n99]
    have hbG : bG (mxS (pts ^^^ 1 <<< (ac >>> 4 &&& 15)) (sc (ac >>> 4 &&& 15)) 9) (rt (ac >>> 4 &&& 15)) < 2 ^ 31 := by
      have h1 := mxS_b (oth := pts ^^^ 1 <<< (ac >>> 4 &&& 15)) (m := 999) (r := sc (ac >>> 4 &&& 15)) (fun q hq => by have := hsc _ q hA hq; omega)
      have h2 := hrt _ hA
      unfold bG
      split <;> omega
    exact hQ wf ws _ _ _ (BL_ins hBL hp1 hp2 hp3) (fun j hj => ⟨inA_b (fun t ht => (hbv t ht).1) hbG hp1 hbs j hj, inA_b (fun t ht => (hbv t ht).2) (by omega) hp1 hbs j hj⟩)
  · rw [e] at hm
    obtain ⟨hne, pA, pB, hnb⟩ := may2 hm
    have g' := nrX_Gr hG hA hB hne
    have hx := nrX_on hG hA hB hne hnb
    have hbit2 : (nrX nr (ac >>> 4 &&& 15) (ac &&& 15) (ac >>> 4 &&& 15)).testBit (ac &&& 15) = true := (hx _ _ hA).mpr (Or.inr (Or.inl ⟨rfl, rfl⟩))
    refine r_Sto_step2 hb a1 hA hB (by omega) hpt hG.1 hbs hbv hsc hrt hne pA pB g'.1 e hnb hbit2 ?_ ?_ ?_
    · intro R J hR hRb hJ p hp q1 q2
      have hncn : ¬ cn nr (ac >>> 4 &&& 15) (ac &&& 15) := fun z => by rw [(cn_R hR).mpr z] at hRb; cases hRb
      unfold wv at q1 q2
      by_cases z : J.testBit p = true
      · rw [if_pos z] at q1; omega
      · rw [if_neg z] at q1 q2
        have u := hT.2.2.2.2.2.2.1 (ac >>> 4 &&& 15) p (ac &&& 15) hA hp hB hncn
        rw [hT.2.2.2.1 p (ac &&& 15) hp hB] at u
        omega
    · intro R hR hRb
      have et : tS ac (k + 1) (pts, edg, nr, rt, sc, bs) = (pts, edg + 1, nrX nr (ac >>> 4 &&& 15) (ac &&& 15), rt, sc, bs) := by
        unfold tS
        rw [if_neg (by omega), if_neg (by omega), if_pos e]
        dsimp only
        rw [if_pos (by rw [← IsR_pOf hR]; exact hRb)]
      rw [et] at hQ
      exact hQ wf ws bsz bbg ben hBL hbv
    · intro R J hR hRb hJ p hp1 hp2 hp3
      have eJ := IsR_pOf hJ
      have et : tS ac (k + 1) (pts, edg, nr, rt, sc, bs) = (pts, edg + 1, nrX nr (ac >>> 4 &&& 15) (ac &&& 15), (if sc (ac >>> 4 &&& 15) (ac &&& 15) = 0 then pw 9 (lR J (wv J (sc (ac >>> 4 &&& 15))) (wv J (sc (ac &&& 15)))) (fun _ => min (rt (ac >>> 4 &&& 15)) (rt (ac &&& 15))) rt else rt), sj (sc (ac >>> 4 &&& 15) (ac &&& 15)) J (wv J (sc (ac >>> 4 &&& 15))) (wv J (sc (ac &&& 15))) sc 9, bs ++ [(bG (sc (ac >>> 4 &&& 15) (ac &&& 15)) (max (rt (ac >>> 4 &&& 15)) (rt (ac &&& 15))), k + 1)]) := by
        unfold tS
        rw [if_neg (by omega), if_neg (by omega), if_pos e]
        dsimp only
        rw [if_neg (by rw [← IsR_pOf hR, hRb]; decide), ← eJ]
      rw [et] at hQ
      dsimp only at hQ
      rw [srt_snoc] at hQ
      rw [if_neg n99]
      have hf9 : ∀ q, q < 9 → pw 9 (fun _ => true) (wv J (sc (ac >>> 4 &&& 15))) wf q = wv J (sc (ac >>> 4 &&& 15)) q := fun q hq => pw_in hq rfl
      have hs9 : ∀ q, q < 9 → pw 9 (fun _ => true) (wv J (sc (ac &&& 15))) ws q = wv J (sc (ac &&& 15)) q := fun q hq => pw_in hq rfl
      rw [sj_congr (fun q hq => ⟨hf9 q hq, hs9 q hq⟩), pw_congr (c' := lR J (wv J (sc (ac >>> 4 &&& 15))) (wv J (sc (ac &&& 15)))) (fun q hq => by unfold lR; rw [hf9 q hq, hs9 q hq])]
      have hbG : bG (sc (ac >>> 4 &&& 15) (ac &&& 15)) (max (rt (ac >>> 4 &&& 15)) (rt (ac &&& 15))) < 2 ^ 31 := by
        have h1 := hsc _ _ hA hB
        have h2 := hrt _ hA
        have h3 := hrt _ hB
        unfold bG
        split <;> omega
      exact hQ _ _ _ _ _ (BL_ins hBL hp1 hp2 hp3) (fun j hj => ⟨inA_b (fun t ht => (hbv t ht).1) hbG hp1 hbs j hj, inA_b (fun t ht => (hbv t ht).2) (by omega) hp1 hbs j hj⟩)
  · rw [e] at hm
    have hnb := may3 hm
    have hne : ac >>> 4 &&& 15 ≠ ac &&& 15 := fun z => by rw [← z, hG.2.2 _ hA] at hnb; cases hnb
    have g' := nrX_Gr hG hA hB hne
    have pA := hT.2.2.1 _ _ hA hnb
    have pB := hT.2.2.1 _ _ hB (hG.2.1 _ _ hA hB hnb)
    have hsum := esum_off hG hA hB hne hnb
    refine r_Sto_step3 hb a1 hA hB (by omega) hpt hG.1 hbs hbv hsc hrt hne pA pB g'.1 e (by omega) hnb ?_ ?_
    · intro R2 hR hRb
      have et : tS ac (k + 1) (pts, edg, nr, rt, sc, bs) = (pts, edg - 1, nrX nr (ac >>> 4 &&& 15) (ac &&& 15), rt, sc, bs) := by
        unfold tS
        rw [if_neg (by omega), if_neg (by omega), if_neg (by omega)]
        dsimp only
        rw [if_pos (by rw [← IsR_pOf hR]; exact hRb)]
      rw [et] at hQ
      exact hQ wf ws bsz bbg ben hBL hbv
    · intro R2 fi se hR hRb hfi hse
      have et : tS ac (k + 1) (pts, edg, nr, rt, sc, bs) = (pts, edg - 1, nrX nr (ac >>> 4 &&& 15) (ac &&& 15), rt, kP sc fi se (k + 1) 9, bs) := by
        unfold tS
        rw [if_neg (by omega), if_neg (by omega), if_neg (by omega)]
        dsimp only
        rw [if_neg (by rw [← IsR_pOf hR, hRb]; decide), ← IsR_pOf hfi, ← IsR_pOf hse]
      rw [et] at hQ
      exact hQ wf ws bsz bbg ben hBL hbv
end CS
