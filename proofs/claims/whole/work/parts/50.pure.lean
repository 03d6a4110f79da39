/-! rows that are made: backwards, cleared; bars as numbers -/
theorem okR_le {ra : Nat → Nat} {k j : Nat} (h : okR ra k) (hj : j ≤ k) : okR ra j := fun i hi => h i (by omega)
noncomputable def okB (ra : Nat → Nat) : Nat → Bool
  | 0 => true
  | k + 1 => okB ra k && mayT (stR ra k) (ra k)
theorem okB_iff {ra : Nat → Nat} : ∀ k, okB ra k = true ↔ okR ra k
  | 0 => ⟨fun _ i hi => absurd hi (Nat.not_lt_zero i), fun _ => rfl⟩
  | k + 1 => by
    unfold okB
    rw [Bool.and_eq_true, okB_iff k]
    refine ⟨fun z i hi => ?_, fun z => ⟨fun i hi => z i (by omega), z k (Nat.lt_succ_self k)⟩⟩
    by_cases e : i = k
    · subst e; exact z.2
    · exact z.1 i (by omega)
theorem tS_bs {ac k : Nat} {τ : TT} : ∀ x ∈ (tS ac k τ).2.2.2.2.2, x ∈ τ.2.2.2.2.2 ∨ x.2 = k := by
  intro x hx
  unfold tS at hx
  split at hx
  · exact Or.inl hx
  · split at hx
    · rcases List.mem_append.mp hx with q | q
      · exact Or.inl q
      · rw [List.mem_singleton] at q; rw [q]; exact Or.inr rfl
    · split at hx
      · split at hx
        · exact Or.inl hx
        · rcases List.mem_append.mp hx with q | q
          · exact Or.inl q
          · rw [List.mem_singleton] at q; rw [q]; exact Or.inr rfl
      · split at hx
        · exact Or.inl hx
        · exact Or.inl hx
theorem st_bs {ra : Nat → Nat} : ∀ k, (∀ i, i < k → AV (ra i)) → okR ra k → ∀ x ∈ (stR ra k).2.2.2.2.2, x.1 ≤ x.2
  | 0, _, _ => fun x hx => absurd hx List.not_mem_nil
  | k + 1, ha, ho => fun x hx => by
    rcases tS_bs x hx with q | q
    · exact st_bs k (fun i hi => ha i (by omega)) (okR_le ho (Nat.le_succ k)) x q
    · have := ((TV_run (k + 1) ha ho).2.2.2 x hx).2.1
      omega
theorem BL_BQ {ra f g : Nat → Nat} {rn nn : Nat} (hV : RV (rn, ra)) (h : BL nn f g (bsR ra rn)) : nn ≤ 40 ∧ BQ rn f g nn := by
  obtain ⟨h1, h2, h3⟩ := hV
  dsimp only at h1 h2 h3
  have hT := TV_run rn h2 h3
  have hl := opT_len hT
  refine ⟨?_, fun i hi => ?_⟩
  · have e := h.1
    unfold bsR at e
    rw [srt_len, List.length_append] at e
    omega
  · have hm := BL_mem h i hi
    have q1 : BV (f i, g i) := srt_mem (bs_mem hT h1) _ hm
    refine ⟨q1, ?_⟩
    have q2 : (f i, g i).2 = 99 ∨ (f i, g i).1 ≤ (f i, g i).2 := srt_mem (P := fun x => x.2 = 99 ∨ x.1 ≤ x.2) (fun x hx => by
      rcases List.mem_append.mp hx with q | q
      · exact Or.inr (st_bs rn h2 h3 x q)
      · exact Or.inl (opT_mem hT x q).2.2) _ hm
    have q3 : (f i, g i).2 = 99 → (f i, g i).1 ≤ rn := fun z => by
      have w := srt_mem (P := fun x => x.2 = 99 → x.1 ≤ rn) (fun x hx => by
        rcases List.mem_append.mp hx with q | q
        · intro _; exact (hT.2.2.2 x q).2.1
        · intro _; exact (opT_mem hT x q).2.1) _ hm
      exact w z
    obtain ⟨b1, b2, b3, b4⟩ := q1
    dsimp only at b1 b2 b3 b4 q2 q3
    unfold laE
    split
    · rename_i e
      have := q3 e
      omega
    · rename_i e
      rcases q2 with q | q
      · exact absurd q e
      · omega
theorem BL_BV {ra f g : Nat → Nat} {rn nn : Nat} (hV : RV (rn, ra)) (h : BL nn f g (bsR ra rn)) : ∀ i, i < nn → BV (f i, g i) := fun i hi => ((BL_BQ hV h).2 i hi).1
/-- a list's bars by number -/
def lF (l : List (Nat × Nat)) (i : Nat) : Nat := ((l[l.length - 1 - i]?).getD (0, 0)).1
def lG (l : List (Nat × Nat)) (i : Nat) : Nat := ((l[l.length - 1 - i]?).getD (0, 0)).2
theorem BL_l {nn : Nat} {f g : Nat → Nat} {l : List (Nat × Nat)} (h : BL nn f g l) : nn = l.length ∧ ∀ i, i < nn → f i = lF l i ∧ g i = lG l i := by
  refine ⟨h.1.symm, fun i hi => ?_⟩
  unfold lF lG
  rw [h.1, h.2 i hi]
  exact ⟨rfl, rfl⟩
def wpL (l l' : List (Nat × Nat)) : Nat := l.length - pzz (lF l) (lG l) (lF l') (lG l') l.length l'.length (l.length + l'.length) 0 0
theorem BL_wp {nn mm : Nat} {f g f' g' : Nat → Nat} {l l' : List (Nat × Nat)} (h : BL nn f g l) (h' : BL mm f' g' l') : nn - pzz f g f' g' nn mm (nn + mm) 0 0 = wpL l l' := by
  obtain ⟨e1, e2⟩ := BL_l h
  obtain ⟨e3, e4⟩ := BL_l h'
  unfold wpL
  rw [pzz_congr e2 e4, e1, e3]
def loL (rn : Nat) (l : List (Nat × Nat)) : Nat := mxN (fun j => lnN rn (lF l j) (lG l j)) l.length
theorem BL_lo {nn rn : Nat} {f g : Nat → Nat} {l : List (Nat × Nat)} (h : BL nn f g l) : mxN (fun j => lnN rn (f j) (g j)) nn = loL rn l := by
  obtain ⟨e1, e2⟩ := BL_l h
  unfold loL
  rw [mxN_congr (g := fun j => lnN rn (lF l j) (lG l j)) nn (fun j hj => by rw [(e2 j hj).1, (e2 j hj).2]), e1]
def cnL (P : Nat → Nat → Bool) (l : List (Nat × Nat)) : Nat := cntA (fun j => P (lF l j) (lG l j)) l.length
theorem BL_cn {nn : Nat} {f g : Nat → Nat} {l : List (Nat × Nat)} (P : Nat → Nat → Bool) (h : BL nn f g l) : cntA (fun j => P (f j) (g j)) nn = cnL P l := by
  obtain ⟨e1, e2⟩ := BL_l h
  unfold cnL
  rw [cntA_congr (q := fun j => P (lF l j) (lG l j)) nn (fun j hj => by rw [(e2 j hj).1, (e2 j hj).2]), e1]
theorem BL_op {nn rn : Nat} {f g ra : Nat → Nat} (hV : RV (rn, ra)) (h : BL nn f g (bsR ra rn)) : cntA (fun j => Nat.beq (g j) 99) nn = (opT (stR ra rn)).length := by
  rw [← bs_open (TV_run rn hV.2.1 hV.2.2) hV.1]
  exact cntA_list (P := fun x => Nat.beq x.2 99) nn _ h
/-- the pieces of a graph, counted -/
noncomputable def pcC (pts : Nat) (nr : Nat → Nat) : Nat → Nat → Nat → Nat
  | 0, _, _ => 0
  | m + 1, i, seen => if pts.testBit i = true ∧ seen.testBit i = false then pcC pts nr m (i + 1) (seen ||| pOf nr i) + 1 else pcC pts nr m (i + 1) seen
theorem pcC_eq {pts pcs : Nat} {nr po : Nat → Nat} (g : Gr nr) (hL : Lab pts nr po pcs) : ∀ m i seen L, i + m = 9 → PcI pts po pcs i seen L → popc pcs 9 = popc L 9 + pcC pts nr m i seen
  | 0, i, seen, L, hi, h => by
    have e : i = 9 := hi
    subst e
    rw [PcI_end hL h]
    rfl
  | m + 1, i, seen, L, hi, h => by
    have i9 : i < 9 := by omega
    unfold pcC
    by_cases e : pts.testBit i = true ∧ seen.testBit i = false
    · rw [if_pos e]
      have hR := IsR_ex g i9
      rw [IsR_pOf hR] at hR
      obtain ⟨q1, q2⟩ := PcI_new i9 hL h hR e.1 e.2
      have := pcC_eq g hL m (i + 1) _ _ (by omega) q1
      omega
    · rw [if_neg e]
      refine pcC_eq g hL m (i + 1) _ _ (by omega) (PcI_skip i9 h ?_)
      by_cases z : pts.testBit i = true
      · exact Or.inr (by cases y : seen.testBit i with | true => rfl | false => exact absurd ⟨z, y⟩ e)
      · exact Or.inl (by cases y : pts.testBit i with | false => rfl | true => exact absurd y z)
noncomputable def npT (τ : TT) : Nat := pcC τ.1 τ.2.2.1 9 0 0
theorem npT_eq {τ : TT} {pcs : Nat} {po : Nat → Nat} (g : Gr τ.2.2.1) (hL : Lab τ.1 τ.2.2.1 po pcs) : popc pcs 9 = npT τ := by
  have z : ∀ t, ¬ (0 : Nat).testBit t = true := fun t => by rw [Nat.zero_testBit]; decide
  have q := pcC_eq g hL 9 0 0 0 rfl ⟨fun t _ _ => ⟨fun y => absurd y (z _), fun y => absurd y (z _)⟩, fun l y => absurd y (z _), fun j hj => absurd hj (Nat.not_lt_zero j), by decide, by decide⟩
  have e0 : popc 0 9 = 0 := by decide
  rw [e0, Nat.zero_add] at q
  exact q
/-- the graph behind an act -/
theorem tS_g0 {ac k : Nat} {τ : TT} (h : ac >>> 8 < 2) : (tS ac k τ).1 = τ.1 ^^^ 1 <<< (ac >>> 4 &&& 15) ∧ (tS ac k τ).2.2.1 = τ.2.2.1 ∧ (tS ac k τ).2.1 = τ.2.1 := by
  unfold tS
  by_cases e : ac >>> 8 = 0
  · rw [if_pos e]; exact ⟨rfl, rfl, rfl⟩
  · rw [if_neg e, if_pos (by omega)]; exact ⟨rfl, rfl, rfl⟩
theorem tS_g2 {ac k : Nat} {τ : TT} (h : 2 ≤ ac >>> 8) : (tS ac k τ).1 = τ.1 ∧ (tS ac k τ).2.2.1 = nrX τ.2.2.1 (ac >>> 4 &&& 15) (ac &&& 15) := by
  unfold tS
  rw [if_neg (by omega), if_neg (by omega)]
  by_cases e : ac >>> 8 = 2
  · rw [if_pos e]
    split <;> exact ⟨rfl, rfl⟩
  · rw [if_neg e]
    split <;> exact ⟨rfl, rfl⟩
theorem nrX_two {nr : Nat → Nat} {A B : Nat} (hne : A ≠ B) : nrX (nrX nr A B) A B = nr := by
  funext p
  refine Nat.eq_of_testBit_eq fun t => ?_
  rw [nrX_bit hne, nrX_bit hne]
  cases (nr p).testBit t <;> cases (decide (p = A ∧ t = B) || decide (p = B ∧ t = A)) <;> rfl
theorem nrX_sym {nr : Nat → Nat} {A B : Nat} (hne : A ≠ B) : nrX nr A B = nrX nr B A := by
  funext p
  refine Nat.eq_of_testBit_eq fun t => ?_
  rw [nrX_bit hne, nrX_bit (Ne.symm hne), Bool.or_comm]
theorem xor_two (x A : Nat) : x ^^^ 1 <<< A ^^^ 1 <<< A = x := by rw [Nat.xor_assoc, Nat.xor_self, Nat.xor_zero]
/-- the act the other way -/
def ivA (ac : Nat) : Nat := acN (ac >>> 8 ^^^ 1) (ac >>> 4 &&& 15) (ac &&& 15)
theorem acN_2 {κ x y : Nat} (hk : κ < 4) (hx : x < 9) (hy : y < 9) (h : 2 ≤ κ) : acN κ x y >>> 4 &&& 15 = min x y ∧ acN κ x y &&& 15 = max x y := by
  have q := (acN_all ⟨κ, hk⟩ ⟨x, hx⟩ ⟨y, hy⟩).2.2.2.2.2.1 h
  exact q
theorem acN_1 {κ x y : Nat} (hk : κ < 4) (hx : x < 9) (hy : y < 9) (h : κ < 2) : acN κ x y >>> 4 &&& 15 = x ∧ acN κ x y &&& 15 = x := (acN_all ⟨κ, hk⟩ ⟨x, hx⟩ ⟨y, hy⟩).2.2.2.2.1 h
theorem xor1 {κ : Nat} (h : κ < 4) : (κ = 0 → κ ^^^ 1 = 1) ∧ (κ = 1 → κ ^^^ 1 = 0) ∧ (κ = 2 → κ ^^^ 1 = 3) ∧ (κ = 3 → κ ^^^ 1 = 2) := ⟨fun e => by subst e; rfl, fun e => by subst e; rfl, fun e => by subst e; rfl, fun e => by subst e; rfl⟩
/-- graphs that are the same -/
def EqG (τ υ : TT) : Prop := τ.1 = υ.1 ∧ ∀ p, p < 9 → τ.2.2.1 p = υ.2.2.1 p
theorem mayB_eqG {τ υ : TT} (h : EqG τ υ) {κ A B : Nat} (hA : A < 9) : mayB τ.1 τ.2.2.1 κ A B = mayB υ.1 υ.2.2.1 κ A B := by
  unfold mayB
  rw [h.1, h.2 A hA]
theorem iv_f {ac : Nat} (h : AV ac) : AV (ivA ac) ∧ ivA ac >>> 8 = ac >>> 8 ^^^ 1 ∧ (ac >>> 8 < 2 → ivA ac >>> 4 &&& 15 = ac >>> 4 &&& 15) ∧ (2 ≤ ac >>> 8 → ivA ac >>> 4 &&& 15 = min (ac >>> 4 &&& 15) (ac &&& 15) ∧ ivA ac &&& 15 = max (ac >>> 4 &&& 15) (ac &&& 15)) := by
  have hk := AV_k h
  obtain ⟨a1, hA, hB, hab⟩ := h
  obtain ⟨x0, x1, x2, x3⟩ := xor1 hk
  have hk2 : ac >>> 8 ^^^ 1 < 4 := by
    rcases (by omega : ac >>> 8 = 0 ∨ ac >>> 8 = 1 ∨ ac >>> 8 = 2 ∨ ac >>> 8 = 3) with e | e | e | e
    · rw [x0 e]; decide
    · rw [x1 e]; decide
    · rw [x2 e]; decide
    · rw [x3 e]; decide
  refine ⟨acN_AV hk2 hA hB, acN_k hk2 hA hB, fun q => ?_, fun q => ?_⟩
  · refine (acN_1 hk2 hA hB ?_).1
    rcases (by omega : ac >>> 8 = 0 ∨ ac >>> 8 = 1) with e | e
    · rw [x0 e]; decide
    · rw [x1 e]; decide
  · refine acN_2 hk2 hA hB ?_
    rcases (by omega : ac >>> 8 = 2 ∨ ac >>> 8 = 3) with e | e
    · rw [x2 e]; decide
    · rw [x3 e]; decide
theorem iv_ok {ac k k' : Nat} {τ υ : TT} (ha : AV ac) (hT : TV τ k) (hm : mayT τ ac = true) (he : EqG υ (tS ac (k + 1) τ)) : mayT υ (ivA ac) = true ∧ EqG (tS (ivA ac) k' υ) τ := by
  obtain ⟨i1, i2, i3, i4⟩ := iv_f ha
  have hk := AV_k ha
  obtain ⟨a1, hA, hB, hab⟩ := ha
  obtain ⟨x0, x1, x2, x3⟩ := xor1 hk
  have hG := hT.1.2.1
  have hsub := hT.1.2.2.1
  unfold mayT at hm ⊢
  by_cases hκ : ac >>> 8 < 2
  · have e1 := i3 hκ
    obtain ⟨t1, t2, -⟩ := tS_g0 (k := k + 1) (τ := τ) hκ
    have hiv2 : ivA ac >>> 8 < 2 := by
      rw [i2]
      rcases (by omega : ac >>> 8 = 0 ∨ ac >>> 8 = 1) with e | e
      · rw [x0 e]; decide
      · rw [x1 e]; decide
    obtain ⟨u1, u2, -⟩ := tS_g0 (ac := ivA ac) (k := k') (τ := υ) hiv2
    refine ⟨?_, ?_, fun p hp => ?_⟩
    · rw [mayB_eqG he i1.2.1, t1, t2, e1, i2]
      rcases (by omega : ac >>> 8 = 0 ∨ ac >>> 8 = 1) with e | e
      · rw [e] at hm
        have hm2 : τ.1.testBit (ac >>> 4 &&& 15) = false := by
          unfold mayB at hm
          rw [if_pos rfl] at hm
          cases q : τ.1.testBit (ac >>> 4 &&& 15) with
          | true => rw [q] at hm; exact absurd hm (by decide)
          | false => rfl
        rw [x0 e]
        unfold mayB
        rw [if_neg (by decide), if_pos rfl, xor_bit, hm2]
        have z : τ.2.2.1 (ac >>> 4 &&& 15) = 0 := by
          refine Nat.eq_of_testBit_eq fun t => ?_
          rw [Nat.zero_testBit]
          cases q : (τ.2.2.1 (ac >>> 4 &&& 15)).testBit t with
          | false => rfl
          | true =>
            have := hsub _ t hA q
            rw [hm2] at this
            exact absurd this (by decide)
        rw [z]
        simp
      · rw [e] at hm
        have hm2 : τ.1.testBit (ac >>> 4 &&& 15) = true := by
          unfold mayB at hm
          rw [if_neg (by decide), if_pos rfl, Bool.and_eq_true] at hm
          exact hm.1
        rw [x1 e]
        unfold mayB
        rw [if_pos rfl, xor_bit, hm2]
        simp
    · rw [u1, he.1, t1, e1, xor_two]
    · rw [u2, he.2 p hp, t2]
  · have hκ2 : 2 ≤ ac >>> 8 := by omega
    obtain ⟨e1, e2⟩ := i4 hκ2
    obtain ⟨t1, t2⟩ := tS_g2 (k := k + 1) (τ := τ) hκ2
    have hiv2 : 2 ≤ ivA ac >>> 8 := by
      rw [i2]
      rcases (by omega : ac >>> 8 = 2 ∨ ac >>> 8 = 3) with e | e
      · rw [x2 e]; decide
      · rw [x3 e]; decide
    obtain ⟨u1, u2⟩ := tS_g2 (ac := ivA ac) (k := k') (τ := υ) hiv2
    have hne : ac >>> 4 &&& 15 ≠ ac &&& 15 := by
      intro z
      rcases (by omega : ac >>> 8 = 2 ∨ ac >>> 8 = 3) with e | e
      · rw [e] at hm
        unfold mayB at hm
        rw [if_neg (by decide), if_neg (by decide), if_pos rfl, z] at hm
        simp at hm
      · rw [e] at hm
        unfold mayB at hm
        rw [if_neg (by decide), if_neg (by decide), if_neg (by decide), ← z, hG.2.2 _ hA] at hm
        exact absurd hm (by decide)
    have hx : nrX (tS ac (k + 1) τ).2.2.1 (ivA ac >>> 4 &&& 15) (ivA ac &&& 15) = τ.2.2.1 := by
      rw [e1, e2, t2]
      rcases Nat.le_total (ac >>> 4 &&& 15) (ac &&& 15) with q | q
      · rw [Nat.min_eq_left q, Nat.max_eq_right q, nrX_two hne]
      · rw [Nat.min_eq_right q, Nat.max_eq_left q, nrX_sym (Ne.symm hne), nrX_two hne]
    refine ⟨?_, ?_, fun p hp => ?_⟩
    · rw [mayB_eqG he i1.2.1, t1, t2, e1, e2, i2]
      have hb : (nrX τ.2.2.1 (ac >>> 4 &&& 15) (ac &&& 15) (min (ac >>> 4 &&& 15) (ac &&& 15))).testBit (max (ac >>> 4 &&& 15) (ac &&& 15)) = !(τ.2.2.1 (ac >>> 4 &&& 15)).testBit (ac &&& 15) := by
        rw [nrX_bit hne]
        rcases Nat.le_total (ac >>> 4 &&& 15) (ac &&& 15) with q | q
        · rw [Nat.min_eq_left q, Nat.max_eq_right q]
          simp
        · rw [Nat.min_eq_right q, Nat.max_eq_left q]
          have s1 : (τ.2.2.1 (ac &&& 15)).testBit (ac >>> 4 &&& 15) = (τ.2.2.1 (ac >>> 4 &&& 15)).testBit (ac &&& 15) := by
            cases y : (τ.2.2.1 (ac >>> 4 &&& 15)).testBit (ac &&& 15) with
            | true => exact hG.2.1 _ _ hA hB y
            | false =>
              cases w : (τ.2.2.1 (ac &&& 15)).testBit (ac >>> 4 &&& 15) with
              | false => rfl
              | true => rw [hG.2.1 _ _ hB hA w] at y; exact y
          rw [s1]
          simp
      rcases (by omega : ac >>> 8 = 2 ∨ ac >>> 8 = 3) with e | e
      · rw [e] at hm
        unfold mayB at hm
        rw [if_neg (by decide), if_neg (by decide), if_pos rfl] at hm
        simp only [Bool.and_eq_true, Bool.not_eq_true'] at hm
        rw [x2 e]
        unfold mayB
        rw [if_neg (by decide), if_neg (by decide), if_neg (by decide), hb, hm.2]
        rfl
      · rw [e] at hm
        unfold mayB at hm
        rw [if_neg (by decide), if_neg (by decide), if_neg (by decide)] at hm
        have p1 := hsub _ _ hA hm
        have p2 := hsub _ _ hB (hG.2.1 _ _ hA hB hm)
        rw [x3 e]
        unfold mayB
        rw [if_neg (by decide), if_neg (by decide), if_pos rfl, hb, hm]
        have p3 : τ.1.testBit (min (ac >>> 4 &&& 15) (ac &&& 15)) = true := by
          rcases Nat.le_total (ac >>> 4 &&& 15) (ac &&& 15) with q | q
          · rw [Nat.min_eq_left q]; exact p1
          · rw [Nat.min_eq_right q]; exact p2
        have p4 : τ.1.testBit (max (ac >>> 4 &&& 15) (ac &&& 15)) = true := by
          rcases Nat.le_total (ac >>> 4 &&& 15) (ac &&& 15) with q | q
          · rw [Nat.max_eq_right q]; exact p2
          · rw [Nat.max_eq_left q]; exact p1
        rw [p3, p4]
        have p5 : min (ac >>> 4 &&& 15) (ac &&& 15) ≠ max (ac >>> 4 &&& 15) (ac &&& 15) := by omega
        simp [p5]
    · rw [u1, he.1, t1]
    · rw [u2, nrX_congr i1.2.1 i1.2.2.1 he.2 p hp, hx]
/-- the row backwards -/
def bwA (ra : Nat → Nat) (rn : Nat) : Nat → Nat := fun i => ivA (ra (rn - 1 - i))
theorem nr_zero {τ : TT} {k : Nat} (hT : TV τ k) (h : τ.1 = 0) : ∀ p, p < 9 → τ.2.2.1 p = 0 := fun p hp => by
  refine Nat.eq_of_testBit_eq fun t => ?_
  rw [Nat.zero_testBit]
  cases q : (τ.2.2.1 p).testBit t with
  | false => rfl
  | true =>
    have := hT.1.2.2.1 p t hp q
    rw [h, Nat.zero_testBit] at this
    exact absurd this (by decide)
theorem bw_run {ra : Nat → Nat} {rn : Nat} (hV : RV (rn, ra)) (h0 : (stR ra rn).1 = 0) : ∀ j, j ≤ rn → okR (bwA ra rn) j ∧ EqG (stR (bwA ra rn) j) (stR ra (rn - j))
  | 0, _ => ⟨fun i hi => absurd hi (Nat.not_lt_zero i), h0.symm, fun p hp => (nr_zero (TV_run rn hV.2.1 hV.2.2) h0 p hp).symm⟩
  | j + 1, hj => by
    obtain ⟨o, e⟩ := bw_run hV h0 j (by omega)
    have hi : rn - j = (rn - 1 - j) + 1 := by omega
    have hi2 : rn - (j + 1) = rn - 1 - j := by omega
    rw [hi] at e
    have hTV := TV_run (ra := ra) (rn - 1 - j) (fun i hi => hV.2.1 i (by show i < rn; omega)) (okR_le hV.2.2 (by show _ ≤ rn; omega))
    have q := iv_ok (k' := j + 1) (hV.2.1 (rn - 1 - j) (by show _ < rn; omega)) hTV (hV.2.2 (rn - 1 - j) (by show _ < rn; omega)) e
    refine ⟨fun i hi => ?_, ?_⟩
    · by_cases z : i = j
      · subst z; exact q.1
      · exact o i (by omega)
    · rw [hi2]
      exact q.2
theorem bw_RV {ra : Nat → Nat} {rn : Nat} (hV : RV (rn, ra)) (h0 : (stR ra rn).1 = 0) : RV (rn, bwA ra rn) :=
  ⟨hV.1, fun i hi => (iv_f (hV.2.1 (rn - 1 - i) (by have : i < rn := hi; show _ < rn; omega))).1, (bw_run hV h0 rn (Nat.le_refl rn)).1⟩
/-- one act more -/
def rAd (r : Nat × (Nat → Nat)) (ac : Nat) : Nat × (Nat → Nat) := (r.1 + 1, uN' r.2 r.1 ac)
/-- the edges of a point go -/
def cl1 (nr : Nat → Nat) (a : Nat) (r : Nat × (Nat → Nat)) : Nat → Nat × (Nat → Nat)
  | 0 => r
  | i + 1 => if (nr a).testBit (a + 1 + i) = true then rAd (cl1 nr a r i) (acN 3 a (a + 1 + i)) else cl1 nr a r i
def cl2 (nr : Nat → Nat) (r : Nat × (Nat → Nat)) : Nat → Nat × (Nat → Nat)
  | 0 => r
  | a + 1 => cl1 nr a (cl2 nr r a) (8 - a)
def cl3 (th : Nat) (r : Nat × (Nat → Nat)) : Nat → Nat × (Nat → Nat)
  | 0 => r
  | p + 1 => if th.testBit p = true then rAd (cl3 th r p) (acN 1 p 0) else cl3 th r p
/-- what holds while the edges go -/
def CE (τ : TT) (n a b : Nat) (r : Nat × (Nat → Nat)) : Prop :=
  RV r ∧ (stR r.2 r.1).1 = τ.1 ∧ r.1 + (stR r.2 r.1).2.1 = n ∧ ∀ p q, p < q → q < 9 → ((stR r.2 r.1).2.2.1 p).testBit q = (!(decide (p < a) || (decide (p = a) && decide (q < b))) && (τ.2.2.1 p).testBit q)
theorem st_rAd {r : Nat × (Nat → Nat)} {ac : Nat} : stR (rAd r ac).2 (rAd r ac).1 = tS ac (r.1 + 1) (stR r.2 r.1) := by
  show tS (uN' r.2 r.1 ac r.1) (r.1 + 1) (stR (uN' r.2 r.1 ac) r.1) = _
  rw [uN_s, stR_congr (rb := r.2) r.1 (fun j hj => uN_n (by omega))]
theorem CE_step {τ : TT} {n a i : Nat} {r : Nat × (Nat → Nat)} (hn : n ≤ 40) (hi : a + 1 + i < 9) (h : CE τ n a (a + 1 + i) r) : ((τ.2.2.1 a).testBit (a + 1 + i) = true → r.1 < 40 ∧ CE τ n a (a + 1 + (i + 1)) (rAd r (acN 3 a (a + 1 + i)))) ∧ ((τ.2.2.1 a).testBit (a + 1 + i) = false → CE τ n a (a + 1 + (i + 1)) r) := by
  obtain ⟨h1, h2, h3, h4⟩ := h
  have hb : ((stR r.2 r.1).2.2.1 a).testBit (a + 1 + i) = (τ.2.2.1 a).testBit (a + 1 + i) := by
    rw [h4 a (a + 1 + i) (by omega) hi]
    simp
  have hTV := TV_run r.1 h1.2.1 h1.2.2
  refine ⟨fun c => ?_, fun c => ⟨h1, h2, h3, fun p q hp hq => ?_⟩⟩
  · rw [c] at hb
    obtain ⟨n1, n2⟩ := acN_2 (κ := 3) (x := a) (y := a + 1 + i) (by decide) (by omega) hi (by decide)
    rw [Nat.min_eq_left (by omega)] at n1
    rw [Nat.max_eq_right (by omega)] at n2
    have n3 := acN_k (κ := 3) (x := a) (y := a + 1 + i) (by decide) (by omega) hi
    have hav := acN_AV (κ := 3) (x := a) (y := a + 1 + i) (by decide) (by omega) hi
    have hm : mayT (stR r.2 r.1) (acN 3 a (a + 1 + i)) = true := by
      unfold mayT
      rw [n1, n2, n3]
      exact hb
    have hoff := esum_off hTV.1.2.1 (by omega) hi (by omega : a ≠ a + 1 + i) hb
    have hT2 := TV_step hTV hav hm
    have hE1 := hTV.2.1
    have hE2 := hT2.2.1
    obtain ⟨g1, g2⟩ := tS_g2 (ac := acN 3 a (a + 1 + i)) (k := r.1 + 1) (τ := stR r.2 r.1) (by rw [n3]; decide)
    rw [g2, n1, n2] at hE2
    have h40 : r.1 < 40 := by omega
    refine ⟨h40, RV_add (k := r.1) (ra := r.2) h1 h40 hav hm, ?_, ?_, fun p q hp hq => ?_⟩
    · rw [st_rAd, g1, h2]
    · rw [st_rAd]
      show r.1 + 1 + _ = n
      omega
    · rw [st_rAd, g2, n1, n2, nrX_bit (by omega), h4 p q hp hq]
      by_cases e : p = a ∧ q = a + 1 + i
      · obtain ⟨e1, e2⟩ := e
        subst e1
        subst e2
        rw [c]
        simp
      · have e5 : decide (p = a ∧ q = a + 1 + i) = false := by rw [decide_eq_false_iff_not]; exact e
        have e6 : decide (p = a + 1 + i ∧ q = a) = false := by rw [decide_eq_false_iff_not]; omega
        have e7 : (decide (p < a) || decide (p = a) && decide (q < a + 1 + (i + 1))) = (decide (p < a) || decide (p = a) && decide (q < a + 1 + i)) := by
          by_cases z : p = a
          · have : decide (q < a + 1 + (i + 1)) = decide (q < a + 1 + i) := by rw [decide_eq_decide]; omega
            rw [this]
          · have : decide (p = a) = false := by rw [decide_eq_false_iff_not]; exact z
            rw [this, Bool.false_and, Bool.false_and]
        rw [e5, e6, e7]
        simp
  · rw [h4 p q hp hq]
    by_cases e : p = a ∧ q = a + 1 + i
    · obtain ⟨e1, e2⟩ := e
      subst e1
      subst e2
      rw [c]
      simp
    · have e7 : (decide (p < a) || decide (p = a) && decide (q < a + 1 + (i + 1))) = (decide (p < a) || decide (p = a) && decide (q < a + 1 + i)) := by
        by_cases z : p = a
        · have : decide (q < a + 1 + (i + 1)) = decide (q < a + 1 + i) := by rw [decide_eq_decide]; omega
          rw [this]
        · have : decide (p = a) = false := by rw [decide_eq_false_iff_not]; exact z
          rw [this, Bool.false_and, Bool.false_and]
      rw [e7]
theorem CE_1 {τ : TT} {n a : Nat} {r : Nat × (Nat → Nat)} (hn : n ≤ 40) (ha : a < 9) (h : CE τ n a (a + 1) r) : ∀ i, a + 1 + i ≤ 9 → CE τ n a (a + 1 + i) (cl1 τ.2.2.1 a r i)
  | 0, _ => h
  | i + 1, hi => by
    have q := CE_step hn (by omega) (CE_1 hn ha h i (by omega))
    unfold cl1
    by_cases e : (τ.2.2.1 a).testBit (a + 1 + i) = true
    · rw [if_pos e]; exact (q.1 e).2
    · rw [if_neg e]; exact q.2 (by cases y : (τ.2.2.1 a).testBit (a + 1 + i) with | true => exact absurd y e | false => rfl)
theorem CE_2 {τ : TT} {n : Nat} {r : Nat × (Nat → Nat)} (hn : n ≤ 40) (h : CE τ n 0 1 r) : ∀ a, a ≤ 9 → CE τ n a (a + 1) (cl2 τ.2.2.1 r a)
  | 0, _ => h
  | a + 1, ha => by
    have q := CE_1 hn (by omega) (CE_2 hn h a (by omega)) (8 - a) (by omega)
    unfold cl2
    obtain ⟨q1, q2, q3, q4⟩ := q
    refine ⟨q1, q2, q3, fun p q' hp hq => ?_⟩
    rw [q4 p q' hp hq]
    congr 2
    rw [Bool.eq_iff_iff]
    simp only [Bool.or_eq_true, Bool.and_eq_true, decide_eq_true_eq]
    omega
theorem CE_0 {ra : Nat → Nat} {rn : Nat} (hV : RV (rn, ra)) : CE (stR ra rn) (rn + (stR ra rn).2.1) 0 1 (rn, ra) := by
  refine ⟨hV, rfl, rfl, fun p q hp hq => ?_⟩
  have : (decide (p < 0) || decide (p = 0) && decide (q < 1)) = false := by
    rw [Bool.eq_false_iff]
    simp only [ne_eq, Bool.or_eq_true, Bool.and_eq_true, decide_eq_true_eq]
    omega
  rw [this]
  simp
/-- what holds while the points go -/
def CP (th n i : Nat) (r : Nat × (Nat → Nat)) : Prop :=
  RV r ∧ (∀ p, p < 9 → (stR r.2 r.1).2.2.1 p = 0) ∧ r.1 + popc (stR r.2 r.1).1 9 = n ∧ ∀ p, p < 9 → (stR r.2 r.1).1.testBit p = (!decide (p < i) && th.testBit p)
theorem CP_step {th n i : Nat} {r : Nat × (Nat → Nat)} (hn : n ≤ 40) (hi : i < 9) (h : CP th n i r) : (th.testBit i = true → r.1 < 40 ∧ CP th n (i + 1) (rAd r (acN 1 i 0))) ∧ (th.testBit i = false → CP th n (i + 1) r) := by
  obtain ⟨h1, h2, h3, h4⟩ := h
  have hb : (stR r.2 r.1).1.testBit i = th.testBit i := by
    rw [h4 i hi]
    simp
  refine ⟨fun c => ?_, fun c => ⟨h1, h2, h3, fun p hp => ?_⟩⟩
  · rw [c] at hb
    obtain ⟨n1, n2⟩ := acN_1 (κ := 1) (x := i) (y := 0) (by decide) hi (by decide) (by decide)
    have n3 := acN_k (κ := 1) (x := i) (y := 0) (by decide) hi (by decide)
    have hav := acN_AV (κ := 1) (x := i) (y := 0) (by decide) hi (by decide)
    have hm : mayT (stR r.2 r.1) (acN 1 i 0) = true := by
      unfold mayT mayB
      rw [n1, n2, n3, if_neg (by decide), if_pos rfl, hb, h2 i hi]
      rfl
    obtain ⟨g1, g2, -⟩ := tS_g0 (ac := acN 1 i 0) (k := r.1 + 1) (τ := stR r.2 r.1) (by rw [n3]; decide)
    have hoff := popc_off hi hb
    have h40 : r.1 < 40 := by omega
    refine ⟨h40, RV_add (k := r.1) (ra := r.2) h1 h40 hav hm, fun p hp => ?_, ?_, fun p hp => ?_⟩
    · rw [st_rAd, g2, h2 p hp]
    · rw [st_rAd, g1, n1]
      show r.1 + 1 + _ = n
      omega
    · rw [st_rAd, g1, n1, xor_bit, h4 p hp]
      by_cases e : p = i
      · subst e; rw [c]; simp
      · have e1 : decide (p < i + 1) = decide (p < i) := by rw [decide_eq_decide]; omega
        rw [e1]
        simp [e]
  · rw [h4 p hp]
    by_cases e : p = i
    · subst e; rw [c]; simp
    · have e1 : decide (p < i + 1) = decide (p < i) := by rw [decide_eq_decide]; omega
      rw [e1]
theorem CP_i {th n : Nat} {r : Nat × (Nat → Nat)} (hn : n ≤ 40) (h : CP th n 0 r) : ∀ i, i ≤ 9 → CP th n i (cl3 th r i)
  | 0, _ => h
  | i + 1, hi => by
    have q := CP_step hn (by omega) (CP_i hn h i (by omega))
    unfold cl3
    by_cases e : th.testBit i = true
    · rw [if_pos e]; exact (q.1 e).2
    · rw [if_neg e]; exact q.2 (by cases y : th.testBit i with | true => exact absurd y e | false => rfl)
theorem esum_0 {nr : Nat → Nat} (h : ∀ p, p < 9 → nr p = 0) : esum nr 9 = 0 := by
  rw [esum_congr (nr' := fun _ => 0) h 9 (Nat.le_refl 9)]
  decide
theorem CE_CP {ra : Nat → Nat} {rn : Nat} (hV : RV (rn, ra)) (hn : rn + (stR ra rn).2.1 ≤ 40) : CP (stR ra rn).1 (rn + (stR ra rn).2.1 + popc (stR ra rn).1 9) 0 (cl2 (stR ra rn).2.2.1 (rn, ra) 9) := by
  obtain ⟨h1, h2, h3, h4⟩ := CE_2 hn (CE_0 hV) 9 (Nat.le_refl 9)
  have hTV := TV_run _ h1.2.1 h1.2.2
  have hz : ∀ p, p < 9 → (stR (cl2 (stR ra rn).2.2.1 (rn, ra) 9).2 (cl2 (stR ra rn).2.2.1 (rn, ra) 9).1).2.2.1 p = 0 := fun p hp => by
    refine Nat.eq_of_testBit_eq fun t => ?_
    rw [Nat.zero_testBit]
    cases y : ((stR (cl2 (stR ra rn).2.2.1 (rn, ra) 9).2 (cl2 (stR ra rn).2.2.1 (rn, ra) 9).1).2.2.1 p).testBit t with
    | false => rfl
    | true =>
      have t9 := lt9 (hTV.1.2.1.1 p hp) y
      rcases Nat.lt_trichotomy p t with q | q | q
      · rw [h4 p t q t9] at y
        simp at y
        omega
      · subst q
        rw [hTV.1.2.1.2.2 p hp] at y
        exact y.symm
      · have y2 := hTV.1.2.1.2.1 p t hp t9 y
        rw [h4 t p q hp] at y2
        simp at y2
        omega
  have hE := hTV.2.1
  rw [esum_0 hz] at hE
  refine ⟨h1, hz, ?_, fun p hp => ?_⟩
  · rw [h2]
    omega
  · rw [h2]
    simp
/-- the row that is cleared -/
noncomputable def clR (r : Nat × (Nat → Nat)) : Nat × (Nat → Nat) := cl3 (stR r.2 r.1).1 (cl2 (stR r.2 r.1).2.2.1 r 9) 9
theorem clR_RV {ra : Nat → Nat} {rn : Nat} (hV : RV (rn, ra)) (hn : rn + ((stR ra rn).2.1 + popc (stR ra rn).1 9) ≤ 40) : RV (clR (rn, ra)) :=
  (CP_i (by omega) (CE_CP hV (by omega)) 9 (Nat.le_refl 9)).1
