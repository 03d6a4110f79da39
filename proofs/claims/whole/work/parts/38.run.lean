/-! The story of a row -/
def EqT (τ υ : TT) : Prop := τ.1 = υ.1 ∧ τ.2.1 = υ.2.1 ∧ (∀ p, p < 9 → τ.2.2.1 p = υ.2.2.1 p) ∧ (∀ p, p < 9 → τ.2.2.2.1 p = υ.2.2.2.1 p) ∧ (∀ p q, p < 9 → q < 9 → τ.2.2.2.2.1 p q = υ.2.2.2.2.1 p q) ∧ τ.2.2.2.2.2 = υ.2.2.2.2.2
theorem ClR_congr {nr nr' : Nat → Nat} (h : ∀ p, p < 9 → nr p = nr' p) {S : Nat} (hc : ClR nr S) : ClR nr' S := fun p hp a t ht => hc p hp a t (by rw [h p hp]; exact ht)
theorem pOf_congr {nr nr' : Nat → Nat} (h : ∀ p, p < 9 → nr p = nr' p) (p : Nat) : pOf nr p = pOf nr' p := by
  have h' : ∀ p, p < 9 → nr' p = nr p := fun p hp => (h p hp).symm
  have e : IsR nr p = IsR nr' p := funext fun R => propext ⟨fun z => ⟨z.1, z.2.1, ClR_congr h z.2.2.1, fun S a b => z.2.2.2 S a (ClR_congr h' b)⟩, fun z => ⟨z.1, z.2.1, ClR_congr h' z.2.2.1, fun S a b => z.2.2.2 S a (ClR_congr h b)⟩⟩
  unfold pOf
  rw [e]
theorem mxS_congr {oth : Nat} {r r' : Nat → Nat} (h : ∀ q, q < 9 → r q = r' q) : ∀ i, i ≤ 9 → mxS oth r i = mxS oth r' i
  | 0, _ => rfl
  | i + 1, hi => by
    unfold mxS
    rw [mxS_congr h i (by omega), h i (by omega)]
theorem uN_congr {g g' : Nat → Nat} {A v : Nat} (h : ∀ p, p < 9 → g p = g' p) : ∀ p, p < 9 → uN' g A v p = uN' g' A v p := fun p hp => by
  unfold uN'
  rw [h p hp]
theorem nrX_congr {nr nr' : Nat → Nat} {A B : Nat} (hA : A < 9) (hB : B < 9) (h : ∀ p, p < 9 → nr p = nr' p) : ∀ p, p < 9 → nrX nr A B p = nrX nr' A B p := fun p hp => by
  unfold nrX uN'
  rw [h p hp, h A hA, h B hB]
theorem mayB_congr {th κ A B : Nat} {be be' : Nat → Nat} (hA : A < 9) (h : ∀ p, p < 9 → be p = be' p) : mayB th be κ A B = mayB th be' κ A B := by
  unfold mayB
  rw [h A hA]
theorem EqT.rfl' (τ : TT) : EqT τ τ := ⟨rfl, rfl, fun _ _ => rfl, fun _ _ => rfl, fun _ _ _ _ => rfl, rfl⟩
theorem EqT.symm' {τ υ : TT} (h : EqT τ υ) : EqT υ τ := ⟨h.1.symm, h.2.1.symm, fun p hp => (h.2.2.1 p hp).symm, fun p hp => (h.2.2.2.1 p hp).symm, fun p q hp hq => (h.2.2.2.2.1 p q hp hq).symm, h.2.2.2.2.2.symm⟩
theorem wv_congr {J : Nat} {r r' : Nat → Nat} (h : ∀ q, q < 9 → r q = r' q) : ∀ q, q < 9 → wv J r q = wv J r' q := fun q hq => by
  unfold wv
  rw [h q hq]
set_option maxHeartbeats 1000000 in
theorem tS_congr {ac k : Nat} {τ υ : TT} (ha : AV ac) (h : EqT τ υ) : EqT (tS ac k τ) (tS ac k υ) := by
  obtain ⟨pts, edg, nr, rt, sc, bs⟩ := τ
  obtain ⟨pts', edg', nr', rt', sc', bs'⟩ := υ
  obtain ⟨h1, h2, h3, h4, h5, h6⟩ := h
  dsimp only at h1 h2 h3 h4 h5 h6
  subst h1; subst h2; subst h6
  obtain ⟨a1, hA, hB, -⟩ := ha
  have hnx := nrX_congr hA hB h3
  unfold tS
  dsimp only
  generalize ac >>> 4 &&& 15 = A at *
  generalize ac &&& 15 = B at *
  by_cases e0 : ac >>> 8 = 0
  · rw [if_pos e0, if_pos e0]
    exact ⟨rfl, rfl, h3, uN_congr h4, h5, rfl⟩
  · rw [if_neg e0, if_neg e0]
    by_cases e1 : ac >>> 8 = 1
    · rw [if_pos e1, if_pos e1]
      refine ⟨rfl, rfl, h3, uN_congr h4, fun p q hp hq => ?_, ?_⟩
      · show kz sc A 9 p q = kz sc' A 9 p q
        unfold kz
        rw [h5 p q hp hq]
      · show bs ++ [_] = bs ++ [_]
        rw [mxS_congr (fun q hq => h5 A q hA hq) 9 (Nat.le_refl 9), h4 A hA]
    · rw [if_neg e1, if_neg e1]
      by_cases e2 : ac >>> 8 = 2
      · rw [if_pos e2, if_pos e2, pOf_congr h3 A]
        by_cases ec : (pOf nr' A).testBit B = true
        · rw [if_pos ec, if_pos ec]
          exact ⟨rfl, rfl, hnx, h4, h5, rfl⟩
        · rw [if_neg ec, if_neg ec, pOf_congr hnx A]
          generalize pOf (nrX nr' A B) A = J
          have w1 := wv_congr (J := J) (fun q hq => h5 A q hA hq)
          have w2 := wv_congr (J := J) (fun q hq => h5 B q hB hq)
          have eAB := h5 A B hA hB
          refine ⟨rfl, rfl, hnx, fun p hp => ?_, fun p q hp hq => ?_, ?_⟩
          · show (if sc A B = 0 then pw 9 (lR J (wv J (sc A)) (wv J (sc B))) (fun _ => min (rt A) (rt B)) rt else rt) p = (if sc' A B = 0 then pw 9 (lR J (wv J (sc' A)) (wv J (sc' B))) (fun _ => min (rt' A) (rt' B)) rt' else rt') p
            by_cases m0 : sc' A B = 0
            · rw [if_pos m0, if_pos (eAB.trans m0)]
              unfold pw lR
              rw [w1 p hp, w2 p hp, h4 p hp, h4 A hA, h4 B hB]
            · rw [if_neg m0, if_neg (fun z => m0 (eAB.symm.trans z))]
              exact h4 p hp
          · show sj (sc A B) J (wv J (sc A)) (wv J (sc B)) sc 9 p q = sj (sc' A B) J (wv J (sc' A)) (wv J (sc' B)) sc' 9 p q
            rw [eAB]
            unfold sj
            rw [w1 p hp, w2 p hp, w1 q hq, w2 q hq, h5 p q hp hq]
          · show bs ++ [(bG (sc A B) (max (rt A) (rt B)), k)] = bs ++ [(bG (sc' A B) (max (rt' A) (rt' B)), k)]
            rw [eAB, h4 A hA, h4 B hB]
      · rw [if_neg e2, if_neg e2, pOf_congr hnx A, pOf_congr hnx B]
        by_cases ec : (pOf (nrX nr' A B) A).testBit B = true
        · rw [if_pos ec, if_pos ec]
          exact ⟨rfl, rfl, hnx, h4, h5, rfl⟩
        · rw [if_neg ec, if_neg ec]
          refine ⟨rfl, rfl, hnx, h4, fun p q hp hq => ?_, rfl⟩
          show kP sc _ _ k 9 p q = kP sc' _ _ k 9 p q
          unfold kP
          rw [h5 p q hp hq]
/-- the story of the first acts of a row -/
def T0 : TT := (0, 0, fun _ => 0, fun _ => 0, fun _ _ => 0, [])
noncomputable def stR (ra : Nat → Nat) : Nat → TT
  | 0 => T0
  | i + 1 => tS (ra i) (i + 1) (stR ra i)
def mayT (τ : TT) (ac : Nat) : Bool := mayB τ.1 τ.2.2.1 (ac >>> 8) (ac >>> 4 &&& 15) (ac &&& 15)
/-- the first acts of a row can be done -/
def okR (ra : Nat → Nat) (k : Nat) : Prop := ∀ i, i < k → mayT (stR ra i) (ra i) = true
theorem TV_0 : TV T0 0 := ⟨TI_0 (fun _ _ => rfl) (fun _ _ => rfl) (fun _ _ _ _ => rfl), rfl, ⟨fun _ => 0, 0, Lab_0 (fun _ _ => by decide), by decide⟩, fun x hx => absurd hx List.not_mem_nil⟩
theorem TV_run {ra : Nat → Nat} : ∀ k, (∀ i, i < k → AV (ra i)) → okR ra k → TV (stR ra k) k
  | 0, _, _ => TV_0
  | k + 1, ha, ho => TV_step (TV_run k (fun i hi => ha i (by omega)) (fun i hi => ho i (by omega))) (ha k (Nat.lt_succ_self k)) (ho k (Nat.lt_succ_self k))
/-- TV speaks of the nine alone -/
theorem TI_congr {pts k : Nat} {nr nr' rt rt' : Nat → Nat} {sc sc' : Nat → Nat → Nat} (h : TI pts nr rt sc k) (h3 : ∀ p, p < 9 → nr p = nr' p) (h4 : ∀ p, p < 9 → rt p = rt' p) (h5 : ∀ p q, p < 9 → q < 9 → sc p q = sc' p q) : TI pts nr' rt' sc' k := by
  have cc : ∀ p q, (cn nr' p q ↔ cn nr p q) := fun p q => ⟨fun z S a b => z S a (ClR_congr h3 b), fun z S a b => z S a (ClR_congr (fun p hp => (h3 p hp).symm) b)⟩
  obtain ⟨i1, ⟨g1, g2, g3⟩, i3, i4, i5, i6, i7, i8, i9, i10, i11⟩ := h
  refine ⟨i1, ⟨fun p hp => by rw [← h3 p hp]; exact g1 p hp, fun p q hp hq z => by rw [← h3 q hq]; rw [← h3 p hp] at z; exact g2 p q hp hq z, fun p hp => by rw [← h3 p hp]; exact g3 p hp⟩, fun p q hp z => by rw [← h3 p hp] at z; exact i3 p q hp z, fun p q hp hq => by rw [← h5 p q hp hq, ← h5 q p hq hp]; exact i4 p q hp hq, fun p q hp hq z => ?_, fun p p' q hp hp' hq z => ?_, fun p q r hp hq hr z => ?_, fun p q hp hq z => ?_, fun p q hp hq => by rw [← h5 p q hp hq]; exact i9 p q hp hq, fun p hp => by rw [← h4 p hp]; exact i10 p hp, fun p hp z => by rw [← h4 p hp]; exact i11 p hp z⟩
  · rw [← h5 p q hp hq] at z
    rw [cc]
    exact i5 p q hp hq z
  · rw [cc] at z
    rw [← h5 p q hp hq, ← h5 p' q hp' hq]
    exact i6 p p' q hp hp' hq z
  · rw [cc] at z
    rw [← h5 p q hp hq, ← h5 q r hq hr, ← h5 p r hp hr]
    exact i7 p q r hp hq hr z
  · rw [cc, ← h5 p q hp hq] at z
    rw [← h4 p hp, ← h4 q hq]
    exact i8 p q hp hq z
theorem esum_congr {nr nr' : Nat → Nat} (h : ∀ p, p < 9 → nr p = nr' p) : ∀ n, n ≤ 9 → esum nr n = esum nr' n
  | 0, _ => rfl
  | n + 1, hn => by
    unfold esum
    rw [esum_congr h n (by omega), h n (by omega)]
theorem TV_congr {τ υ : TT} {k : Nat} (h : TV τ k) (e : EqT τ υ) : TV υ k := by
  obtain ⟨pts, edg, nr, rt, sc, bs⟩ := τ
  obtain ⟨pts', edg', nr', rt', sc', bs'⟩ := υ
  obtain ⟨h1, h2, h3, h4, h5, h6⟩ := e
  dsimp only at h1 h2 h3 h4 h5 h6
  subst h1; subst h2; subst h6
  obtain ⟨hT, hE, ⟨po, pcs, hL, hc⟩, hb⟩ := h
  have cc : ∀ p q, (cn nr' p q ↔ cn nr p q) := fun p q => ⟨fun z S a b => z S a (ClR_congr h3 b), fun z S a b => z S a (ClR_congr (fun p hp => (h3 p hp).symm) b)⟩
  exact ⟨TI_congr hT h3 h4 h5, by show 2 * edg = esum nr' 9; rw [← esum_congr h3 9 (Nat.le_refl 9)]; exact hE, ⟨po, pcs, Lab_same hL (fun p q _ => cc p q), hc⟩, hb⟩
