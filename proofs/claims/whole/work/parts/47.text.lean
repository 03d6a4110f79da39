/-! letters, items, acts as numbers -/
/-- the kind that a letter tells; 4: none -/
def kL (x : Nat) : Nat := if x = 118 then 0 else if x = 119 then 1 else if x = 101 then 2 else if x = 102 then 3 else 4
theorem kL_0 {x : Nat} (h : x = 118) : kL x = 0 := by subst h; rfl
theorem kL_1 {x : Nat} (h : x = 119) : kL x = 1 := by subst h; rfl
theorem kL_2 {x : Nat} (h : x = 101) : kL x = 2 := by subst h; rfl
theorem kL_3 {x : Nat} (h : x = 102) : kL x = 3 := by subst h; rfl
theorem kL_4 {x : Nat} (h0 : x ≠ 118) (h1 : x ≠ 119) (h2 : x ≠ 101) (h3 : x ≠ 102) : kL x = 4 := by
  unfold kL
  rw [if_neg h0, if_neg h1, if_neg h2, if_neg h3]
/-- the letter at a place -/
def ltr (tl : Nat) (ta : Nat → Nat) (p : Nat) : Nat := if p < tl then ta p else 0
theorem ltr_in {tl p : Nat} {ta : Nat → Nat} (h : p < tl) : ltr tl ta p = ta p := if_pos h
theorem ltr_out {tl p : Nat} {ta : Nat → Nat} (h : tl ≤ p) : ltr tl ta p = 0 := if_neg (by omega)
theorem ltr_b {tl p : Nat} {ta : Nat → Nat} (h : ∀ i, i < tl → ta i < 127) : ltr tl ta p < 127 := by
  unfold ltr
  split
  next z => exact h p z
  next => decide
/-- an act's number -/
def acN (κ x y : Nat) : Nat := if κ < 2 then κ <<< 8 ||| x <<< 4 ||| x else κ <<< 8 ||| min x y <<< 4 ||| max x y
/-- an act's number in the reference -/
def cdN (κ x y : Nat) : Nat := if κ < 2 then 100 * κ + 10 * x else if x < y then 100 * κ + 10 * x + y else 100 * κ + 10 * y + x
set_option maxRecDepth 100000 in
theorem acN_all : ∀ κ : Fin 4, ∀ x y : Fin 9, acN κ.val x.val y.val < 1024 ∧ acN κ.val x.val y.val >>> 8 = κ.val ∧ (acN κ.val x.val y.val >>> 4 &&& 15 < 9) ∧ (acN κ.val x.val y.val &&& 15 < 9) ∧ (κ.val < 2 → acN κ.val x.val y.val >>> 4 &&& 15 = x.val ∧ acN κ.val x.val y.val &&& 15 = x.val) ∧ (2 ≤ κ.val → acN κ.val x.val y.val >>> 4 &&& 15 = min x.val y.val ∧ acN κ.val x.val y.val &&& 15 = max x.val y.val) ∧ cdA (acN κ.val x.val y.val) = cdN κ.val x.val y.val := by decide +kernel
theorem acN_AV {κ x y : Nat} (hk : κ < 4) (hx : x < 9) (hy : y < 9) : AV (acN κ x y) := by
  obtain ⟨h1, h2, h3, h4, h5, -⟩ := acN_all ⟨κ, hk⟩ ⟨x, hx⟩ ⟨y, hy⟩
  dsimp only at h1 h2 h3 h4 h5
  exact ⟨h1, h3, h4, fun z => by rw [h2] at z; rw [(h5 z).1, (h5 z).2]⟩
theorem acN_cd {κ x y : Nat} (hk : κ < 4) (hx : x < 9) (hy : y < 9) : cdA (acN κ x y) = cdN κ x y := (acN_all ⟨κ, hk⟩ ⟨x, hx⟩ ⟨y, hy⟩).2.2.2.2.2.2
theorem acN_k {κ x y : Nat} (hk : κ < 4) (hx : x < 9) (hy : y < 9) : acN κ x y >>> 8 = κ := (acN_all ⟨κ, hk⟩ ⟨x, hx⟩ ⟨y, hy⟩).2.1
/-- a figure -/
abbrev figL (x : Nat) : Prop := 48 ≤ x ∧ x ≤ 56
/-- how many letters an item has -/
def ilN (κ : Nat) : Nat := if κ < 2 then 3 else 4
/-- the act of the item at a place -/
def itA (tl : Nat) (ta : Nat → Nat) (p : Nat) : Option Nat :=
  if kL (ltr tl ta p) < 4 ∧ figL (ltr tl ta (p + 1)) ∧ (kL (ltr tl ta p) < 2 ∨ figL (ltr tl ta (p + 2))) ∧ ltr tl ta (p + ilN (kL (ltr tl ta p)) - 1) = 59
  then some (acN (kL (ltr tl ta p)) (ltr tl ta (p + 1) - 48) (if kL (ltr tl ta p) < 2 then 0 else ltr tl ta (p + 2) - 48)) else none
theorem itA_some {tl p ac : Nat} {ta : Nat → Nat} (h : itA tl ta p = some ac) : AV ac ∧ ac >>> 8 = kL (ltr tl ta p) ∧ ∃ κ x y, κ < 4 ∧ x < 9 ∧ y < 9 ∧ ac = acN κ x y ∧ κ = kL (ltr tl ta p) := by
  unfold itA at h
  split at h
  next z =>
    obtain ⟨z1, z2, z3, z4⟩ := z
    cases h
    unfold figL at z2 z3
    have hx : ltr tl ta (p + 1) - 48 < 9 := by omega
    have hy : (if kL (ltr tl ta p) < 2 then 0 else ltr tl ta (p + 2) - 48) < 9 := by
      split
      · decide
      · omega
    exact ⟨acN_AV z1 hx hy, acN_k z1 hx hy, _, _, _, z1, hx, hy, rfl, rfl⟩
  next => cases h
theorem itA_y {tl p κ : Nat} {ta : Nat → Nat} (h1 : kL (ltr tl ta p) = κ) (hk : κ < 4) (h2 : figL (ltr tl ta (p + 1))) (h3 : κ < 2 ∨ figL (ltr tl ta (p + 2))) (h4 : ltr tl ta (p + ilN κ - 1) = 59) : itA tl ta p = some (acN κ (ltr tl ta (p + 1) - 48) (if κ < 2 then 0 else ltr tl ta (p + 2) - 48)) := by
  subst h1
  exact if_pos ⟨hk, h2, h3, h4⟩
theorem itA_n {tl p κ : Nat} {ta : Nat → Nat} (h1 : kL (ltr tl ta p) = κ) (h : ¬ (κ < 4 ∧ figL (ltr tl ta (p + 1)) ∧ (κ < 2 ∨ figL (ltr tl ta (p + 2))) ∧ ltr tl ta (p + ilN κ - 1) = 59)) : itA tl ta p = none := by
  subst h1
  exact if_neg h
theorem acN_b {κ x y y' : Nat} (h : κ < 2) : acN κ x y = acN κ x y' := by
  unfold acN
  rw [if_pos h, if_pos h]
theorem cdN_b {κ x y y' : Nat} (h : κ < 2) : cdN κ x y = cdN κ x y' := by
  unfold cdN
  rw [if_pos h, if_pos h]
set_option maxRecDepth 100000 in
theorem fig_all : ∀ x : Fin 128, (48 ≤ x.val ∧ x.val ≤ 56 → nI x.val - nI 48 = nI (x.val - 48)) ∧ (((0 : Int32) ≤ nI x.val - nI 48 ∧ nI x.val - nI 48 < 9) ↔ 48 ≤ x.val ∧ x.val ≤ 56) := by decide +kernel
theorem fig_sub {x : Nat} (hx : x < 127) (h : figL x) : nI x - nI 48 = nI (x - 48) := (fig_all ⟨x, by omega⟩).1 h
theorem fig_pt {x : Nat} (hx : x < 127) : ((0 : Int32) ≤ nI x - nI 48 ∧ nI x - nI 48 < 9) ↔ figL x := (fig_all ⟨x, by omega⟩).2
theorem r_Z_edge {d : Nat} {h : mH} {Q : Option Value → mH → Prop} {κ : Nat} (hk : κ < 4) (kt : 2 ≤ κ → Q (some (.int (nI 1))) h) (kf : κ < 2 → Q (some (.int (nI 0))) h) : Rn mprog (d + 1) n_Z_isOfEdge [.int (nI κ)] h Q := by
  rcases (show κ = 0 ∨ κ = 1 ∨ κ = 2 ∨ κ = 3 by omega) with e | e | e | e
  · subst e
    exact r_Z_isOfEdge (fun c => absurd c (by decide)) (fun _ => kf (by decide))
  · subst e
    exact r_Z_isOfEdge (fun c => absurd c (by decide)) (fun _ => kf (by decide))
  · subst e
    exact r_Z_isOfEdge (fun _ => kt (by decide)) (fun c => absurd (Or.inl rfl) c)
  · subst e
    exact r_Z_isOfEdge (fun _ => kt (by decide)) (fun c => absurd (Or.inr rfl) c)
theorem r_Z_ilen {d : Nat} {h : mH} {Q : Option Value → mH → Prop} {κ : Nat} (hk : κ < 4) (hQ : Q (some (.int (nI (ilN κ)))) h) : Rn mprog (d + 2) n_Z_itemLength [.int (nI κ)] h Q := by
  rcases (show κ = 0 ∨ κ = 1 ∨ κ = 2 ∨ κ = 3 by omega) with e | e | e | e
  · subst e
    exact r_Z_itemLength (fun c => absurd c (by decide)) (fun _ => hQ)
  · subst e
    exact r_Z_itemLength (fun c => absurd c (by decide)) (fun _ => hQ)
  · subst e
    exact r_Z_itemLength (fun _ => hQ) (fun c => absurd (Or.inl rfl) c)
  · subst e
    exact r_Z_itemLength (fun _ => hQ) (fun c => absurd (Or.inr rfl) c)
theorem r_Z_actOf0 {d : Nat} {h : mH} {Q : Option Value → mH → Prop} {κ x y : Nat} (hk : κ < 4) (hx : x < 9) (hy : κ < 2 ∨ y < 9) (hQ : Q (some (.int (nI (acN κ x y)))) h) : Rn mprog (d + 2) n_Z_actOf [.int (nI κ), .int (nI x), .int (nI y)] h Q := by
  have hks : κ <<< 8 < 2 ^ 32 := by rw [Nat.shiftLeft_eq]; omega
  refine Rn.in rfl rfl rfl ?_
  show WP _ _ _ _ 0 [.int (nI κ), .int (nI x), .int (nI y), .long 0] [] h
  refine wq_iload_n rfl rfl ?_
  refine wq_stat (a := [.int (nI κ)]) (rest := []) rfl rfl rfl rfl rfl ?_
  refine r_Z_edge hk (fun c1 => ?_) (fun c1 => ?_)
  · skip
    show WP _ _ _ _ 4 [.int (nI κ), .int (nI x), .int (nI y), .long 0] [.int (nI 1)] h
    refine wq_if_eq rfl (fun c => absurd c (by decide)) (fun _ => ?_)
    refine wq_iload_n rfl rfl ?_
    refine wq_goto rfl ?_
    refine wq_istore_n (lv' := [.int (nI κ), .int (nI x), .int (nI y), .int (nI y)]) rfl rfl rfl ?_
    refine wq_iload_n rfl rfl ?_
    refine wq_bipush (v := nI 8) rfl (by decide) ?_
    refine wn_ishl rfl (by omega) hks ?_
    refine wq_iload_n rfl rfl ?_
    refine wq_iload_n rfl rfl ?_
    refine wn_min rfl rfl (by omega) (by omega) rfl ?_
    refine wq_iconst (v := nI 4) rfl (by decide) ?_
    refine wn_ishl rfl (by omega) (by rw [Nat.shiftLeft_eq]; omega) ?_
    refine wn_ior rfl ?_
    refine wq_iload_n rfl rfl ?_
    refine wq_iload_n rfl rfl ?_
    refine wn_max rfl rfl (by omega) (by omega) rfl ?_
    refine wn_ior rfl ?_
    refine wq_iret rfl trivial ?_
    unfold acN at hQ
    rw [if_neg (by omega)] at hQ
    exact hQ
  · skip
    show WP _ _ _ _ 4 [.int (nI κ), .int (nI x), .int (nI y), .long 0] [.int (nI 0)] h
    refine wq_if_eq rfl (fun _ => ?_) (fun c => absurd c (by decide))
    refine wq_iload_n rfl rfl ?_
    refine wq_istore_n (lv' := [.int (nI κ), .int (nI x), .int (nI y), .int (nI x)]) rfl rfl rfl ?_
    refine wq_iload_n rfl rfl ?_
    refine wq_bipush (v := nI 8) rfl (by decide) ?_
    refine wn_ishl rfl (by omega) hks ?_
    refine wq_iload_n rfl rfl ?_
    refine wq_iload_n rfl rfl ?_
    refine wn_min rfl rfl (by omega) (by omega) rfl ?_
    refine wq_iconst (v := nI 4) rfl (by decide) ?_
    refine wn_ishl rfl (by omega) (by rw [Nat.shiftLeft_eq]; omega) ?_
    refine wn_ior rfl ?_
    refine wq_iload_n rfl rfl ?_
    refine wq_iload_n rfl rfl ?_
    refine wn_max rfl rfl (by omega) (by omega) rfl ?_
    refine wn_ior rfl ?_
    refine wq_iret rfl trivial ?_
    unfold acN at hQ
    rw [if_pos c1] at hQ
    rw [Nat.min_self, Nat.max_self]
    exact hQ
theorem r_Z_actOf {d : Nat} {h : mH} {Q : Option Value → mH → Prop} {κ x y : Nat} {vx vy : Int32} (ex : vx = nI x) (ey : vy = nI y) (hk : κ < 4) (hx : x < 9) (hy : κ < 2 ∨ y < 9) (hQ : Q (some (.int (nI (acN κ x y)))) h) : Rn mprog (d + 2) n_Z_actOf [.int (nI κ), .int vx, .int vy] h Q := by
  subst ex
  subst ey
  exact r_Z_actOf0 hk hx hy hQ
theorem r_Z_otherWay {d : Nat} {h : mH} {Q : Option Value → mH → Prop} {ac : Nat} (ha : AV ac) (hQ : Q (some (.int (nI (acN (ac >>> 8 ^^^ 1) (ac >>> 4 &&& 15) (ac &&& 15))))) h) : Rn mprog (d + 3) n_Z_otherWay [.int (nI ac)] h Q := by
  have h4 := AV_k ha
  have hac := ha.1
  have hx4 : ac >>> 8 ^^^ 1 < 4 := Nat.xor_lt_two_pow (n := 2) h4 (by decide)
  refine Rn.in rfl rfl rfl ?_
  show WP _ _ _ _ 0 [.int (nI ac)] [] h
  refine wq_iload_n rfl rfl ?_
  refine wq_stat (a := [.int (nI ac)]) (rest := []) rfl rfl rfl rfl rfl ?_
  refine r_Z_kindOf (by omega) ?_
  show WP _ _ _ _ 4 [.int (nI ac)] [.int (nI (ac >>> 8))] h
  refine wq_iconst (v := nI 1) rfl (by decide) ?_
  refine wn_ixor rfl ?_
  refine wq_iload_n rfl rfl ?_
  refine wq_stat (a := [.int (nI ac)]) (rest := [.int (nI ((ac >>> 8) ^^^ 1))]) rfl rfl rfl rfl rfl ?_
  refine r_Z_lowOf (by omega) ?_
  show WP _ _ _ _ 10 [.int (nI ac)] [.int (nI (ac >>> 4 &&& 15)), .int (nI ((ac >>> 8) ^^^ 1))] h
  refine wq_iload_n rfl rfl ?_
  refine wq_stat (a := [.int (nI ac)]) (rest := [.int (nI (ac >>> 4 &&& 15)), .int (nI ((ac >>> 8) ^^^ 1))]) rfl rfl rfl rfl rfl ?_
  refine r_Z_highOf ?_
  show WP _ _ _ _ 14 [.int (nI ac)] [.int (nI (ac &&& 15)), .int (nI (ac >>> 4 &&& 15)), .int (nI ((ac >>> 8) ^^^ 1))] h
  refine wq_stat (a := [.int (nI ((ac >>> 8) ^^^ 1)), .int (nI (ac >>> 4 &&& 15)), .int (nI (ac &&& 15))]) (rest := []) rfl rfl rfl rfl rfl ?_
  refine r_Z_actOf rfl rfl hx4 ha.2.1 (Or.inr ha.2.2.1) ?_
  show WP _ _ _ _ 17 [.int (nI ac)] [.int (nI (acN (ac >>> 8 ^^^ 1) (ac >>> 4 &&& 15) (ac &&& 15)))] h
  refine wq_iret rfl trivial ?_
  exact hQ
set_option maxRecDepth 100000 in
theorem kL_lk : ∀ x : Fin 128, m_lk 1 51 #[(101, 47), (102, 49), (118, 43), (119, 45)] (nI x.val) = (if kL x.val = 0 then 44 else if kL x.val = 1 then 46 else if kL x.val = 2 then 48 else if kL x.val = 3 then 50 else 52) := by decide +kernel
theorem kL_le (x : Nat) : kL x ≤ 4 := by
  unfold kL
  repeat (first | omega | split)
theorem r_Z_kindOfLetter {d : Nat} {h : mH} {Q : Option Value → mH → Prop} {x : Nat} (hx : x < 127) (kt : kL x < 4 → Q (some (.int (nI (kL x)))) h) (kf : kL x = 4 → Q (some (.int (-1))) h) : Rn mprog (d + 1) n_Z_kindOfLetter [.int (nI x)] h Q := by
  have hl := kL_lk ⟨x, by omega⟩
  dsimp only at hl
  refine Rn.in rfl rfl rfl ?_
  show WP _ _ _ _ 0 [.int (nI x)] [] h
  refine wq_iload_n rfl rfl ?_
  have h5 := kL_le x
  rcases (show kL x = 0 ∨ kL x = 1 ∨ kL x = 2 ∨ kL x = 3 ∨ kL x = 4 by omega) with e | e | e | e | e
  · rw [e] at hl
    refine wq_lsw (t := 44) rfl hl ?_
    refine wq_iconst (v := nI 0) rfl (by decide) ?_
    refine wq_iret rfl trivial ?_
    have q := kt (by omega)
    rw [e] at q
    exact q
  · rw [e] at hl
    refine wq_lsw (t := 46) rfl hl ?_
    refine wq_iconst (v := nI 1) rfl (by decide) ?_
    refine wq_iret rfl trivial ?_
    have q := kt (by omega)
    rw [e] at q
    exact q
  · rw [e] at hl
    refine wq_lsw (t := 48) rfl hl ?_
    refine wq_iconst (v := nI 2) rfl (by decide) ?_
    refine wq_iret rfl trivial ?_
    have q := kt (by omega)
    rw [e] at q
    exact q
  · rw [e] at hl
    refine wq_lsw (t := 50) rfl hl ?_
    refine wq_iconst (v := nI 3) rfl (by decide) ?_
    refine wq_iret rfl trivial ?_
    have q := kt (by omega)
    rw [e] at q
    exact q
  · rw [e] at hl
    refine wq_lsw (t := 52) rfl hl ?_
    refine wq_iconst (v := (-1)) rfl (by decide) ?_
    refine wq_iret rfl trivial ?_
    exact kf e
def klN (κ : Nat) : Nat := if κ = 0 then 118 else if κ = 1 then 119 else if κ = 2 then 101 else 102
def leN (κ x y pl : Nat) : Nat := if pl = 0 then klN κ else if pl = 1 then 48 + x else if pl = 2 ∧ 1 < κ then 48 + y else 59
theorem r_Z_letterOfKind {d : Nat} {h : mH} {Q : Option Value → mH → Prop} {κ : Nat} (hk : κ < 4) (hQ : Q (some (.int (nI (klN κ)))) h) : Rn mprog (d + 1) n_Z_letterOfKind [.int (nI κ)] h Q := by
  refine Rn.in rfl rfl rfl ?_
  show WP _ _ _ _ 0 [.int (nI κ)] [] h
  refine wq_iload_n rfl rfl ?_
  rcases (show κ = 0 ∨ κ = 1 ∨ κ = 2 ∨ κ = 3 by omega) with e1 | e1 | e1 | e1
  · refine wq_tsw (t := 28) rfl (by rw [e1]; decide) ?_
    refine wq_bipush (v := nI 118) rfl (by decide) ?_
    refine wq_iret rfl trivial ?_
    rw [e1] at hQ
    exact hQ
  · refine wq_tsw (t := 31) rfl (by rw [e1]; decide) ?_
    refine wq_bipush (v := nI 119) rfl (by decide) ?_
    refine wq_iret rfl trivial ?_
    rw [e1] at hQ
    exact hQ
  · refine wq_tsw (t := 34) rfl (by rw [e1]; decide) ?_
    refine wq_bipush (v := nI 101) rfl (by decide) ?_
    refine wq_iret rfl trivial ?_
    rw [e1] at hQ
    exact hQ
  · refine wq_tsw (t := 37) rfl (by rw [e1]; decide) ?_
    refine wq_bipush (v := nI 102) rfl (by decide) ?_
    refine wq_iret rfl trivial ?_
    rw [e1] at hQ
    exact hQ
theorem r_Z_letterOf {d : Nat} {h : mH} {Q : Option Value → mH → Prop} {ac pl : Nat} (ha : AV ac) (hp : pl < ilN (ac >>> 8)) (hQ : Q (some (.int (nI (leN (ac >>> 8) (ac >>> 4 &&& 15) (ac &&& 15) pl)))) h) : Rn mprog (d + 3) n_Z_letterOf [.int (nI ac), .int (nI pl)] h Q := by
  have h4 := AV_k ha
  have hac := ha.1
  have hil : ilN (ac >>> 8) = if ac >>> 8 < 2 then 3 else 4 := rfl
  have hil2 : 3 ≤ ilN (ac >>> 8) ∧ ilN (ac >>> 8) ≤ 4 := by rw [hil]; split <;> omega
  refine Rn.in rfl rfl rfl ?_
  show WP _ _ _ _ 0 [.int (nI ac), .int (nI pl), .long 0] [] h
  refine wq_iload_n rfl rfl ?_
  refine wq_stat (a := [.int (nI ac)]) (rest := []) rfl rfl rfl rfl rfl ?_
  refine r_Z_kindOf (by omega) ?_
  show WP _ _ _ _ 4 [.int (nI ac), .int (nI pl), .long 0] [.int (nI (ac >>> 8))] h
  refine wq_istore_n (lv' := [.int (nI ac), .int (nI pl), .int (nI (ac >>> 8))]) rfl rfl rfl ?_
  refine wq_iload_n rfl rfl ?_
  refine wn_if_ne rfl (by omega) (fun c6 => ?_) (fun c6 => ?_)
  · skip
    refine wq_iload_n rfl rfl ?_
    refine wq_iload_n rfl rfl ?_
    refine wq_stat (a := [.int (nI (ac >>> 8))]) (rest := [.int (nI pl)]) rfl rfl rfl rfl rfl ?_
    refine r_Z_ilen h4 ?_
    show WP _ _ _ _ 19 [.int (nI ac), .int (nI pl), .int (nI (ac >>> 8))] [.int (nI (ilN (ac >>> 8))), .int (nI pl)] h
    refine wq_iconst (v := nI 1) rfl (by decide) ?_
    refine wn_isub rfl (by omega) ?_
    refine wn_ic_ne rfl (by omega) (by omega) (fun c21 => ?_) (fun c21 => ?_)
    · skip
      refine wq_bipush (v := nI 48) rfl (by decide) ?_
      refine wq_iload_n rfl rfl ?_
      refine wq_iconst (v := nI 1) rfl (by decide) ?_
      refine wn_ic_ne rfl (by omega) (by omega) (fun c31 => ?_) (fun c31 => ?_)
      · skip
        refine wq_iload_n rfl rfl ?_
        refine wq_stat (a := [.int (nI ac)]) (rest := [.int (nI 48)]) rfl rfl rfl rfl rfl ?_
        refine r_Z_highOf ?_
        show WP _ _ _ _ 45 [.int (nI ac), .int (nI pl), .int (nI (ac >>> 8))] [.int (nI (ac &&& 15)), .int (nI 48)] h
        refine wn_iadd rfl ?_
        refine wq_iret rfl trivial ?_
        unfold leN at hQ
        rw [if_neg (by omega), if_neg c31, if_pos (by rw [hil] at c21 hp; split at c21 <;> split at hp <;> omega)] at hQ
        exact hQ
      · skip
        refine wq_iload_n rfl rfl ?_
        refine wq_stat (a := [.int (nI ac)]) (rest := [.int (nI 48)]) rfl rfl rfl rfl rfl ?_
        refine r_Z_lowOf (by omega) ?_
        show WP _ _ _ _ 38 [.int (nI ac), .int (nI pl), .int (nI (ac >>> 8))] [.int (nI (ac >>> 4 &&& 15)), .int (nI 48)] h
        refine wq_goto rfl ?_
        refine wn_iadd rfl ?_
        refine wq_iret rfl trivial ?_
        unfold leN at hQ
        rw [if_neg (by omega), if_pos c31] at hQ
        exact hQ
    · skip
      refine wq_bipush (v := nI 59) rfl (by decide) ?_
      refine wq_iret rfl trivial ?_
      unfold leN at hQ
      rw [if_neg (by omega), if_neg (by omega), if_neg (by rw [hil] at c21 hil2; split at c21 <;> omega)] at hQ
      exact hQ
  · skip
    refine wq_iload_n rfl rfl ?_
    refine wq_stat (a := [.int (nI (ac >>> 8))]) (rest := []) rfl rfl rfl rfl rfl ?_
    refine r_Z_letterOfKind h4 ?_
    show WP _ _ _ _ 13 [.int (nI ac), .int (nI pl), .int (nI (ac >>> 8))] [.int (nI (klN (ac >>> 8)))] h
    refine wq_iret rfl trivial ?_
    unfold leN at hQ
    rw [if_pos c6] at hQ
    exact hQ
theorem r_Txt_length {d b : Nat} {pre suf : mH} {tl : Nat} {ta : Nat → Nat} {Q : Option Value → mH → Prop} (hb : pre.length = b) (hQ : Q (some (.int (nI tl))) (tW b pre tl ta suf)) : Rn mprog (d + 1) n_Txt_length [.ref b] (tW b pre tl ta suf) Q := by
  refine Rn.in rfl rfl rfl ?_
  show WP _ _ _ _ 0 [.ref b] [] (tW b pre tl ta suf)
  refine wq_aload_n rfl rfl ?_
  refine wq_getfield (v := .int (nI tl)) rfl (tW_o0 hb) rfl ?_
  refine wq_iret rfl trivial ?_
  exact hQ
theorem r_Txt_empty {d b : Nat} {pre suf : mH} {tl : Nat} {ta : Nat → Nat} {Q : Option Value → mH → Prop} (hb : pre.length = b) (hQ : Q none (tW b pre 0 ta suf)) : Rn mprog (d + 1) n_Txt_empty [.ref b] (tW b pre tl ta suf) Q := by
  refine Rn.in rfl rfl rfl ?_
  show WP _ _ _ _ 0 [.ref b] [] (tW b pre tl ta suf)
  refine wq_aload_n rfl rfl ?_
  refine wq_iconst (v := nI 0) rfl (by decide) ?_
  refine wq_putfield (h' := tW b pre 0 ta suf) rfl (tW_o0 hb) rfl (tW_s0_1 hb) ?_
  refine wq_vret rfl rfl ?_
  exact hQ
theorem r_Txt_add {d b : Nat} {pre suf : mH} {tl : Nat} {ta : Nat → Nat} {Q : Option Value → mH → Prop} (hb : pre.length = b) {v : Nat} (hn : tl < 200) (hQ : Q none (tW b pre (tl + 1) (uN' ta tl v) suf)) : Rn mprog (d + 1) n_Txt_add [.ref b, .int (nI v)] (tW b pre tl ta suf) Q := by
  refine Rn.in rfl rfl rfl ?_
  show WP _ _ _ _ 0 [.ref b, .int (nI v)] [] (tW b pre tl ta suf)
  refine wq_aload_n rfl rfl ?_
  refine wq_getfield (v := .int (nI tl)) rfl (tW_o0 hb) rfl ?_
  refine wn_if_lt rfl (by omega) ?_
  refine wq_aload_n rfl rfl ?_
  refine wq_getfield (v := .int (nI tl)) rfl (tW_o0 hb) rfl ?_
  refine wq_aload_n rfl rfl ?_
  refine wq_getfield (v := .ref (b + 1)) rfl (tW_o0 hb) rfl ?_
  refine wq_alen (v := nI 200) rfl (tW_a1 hb) rfl rfl ?_
  refine wn_ic_ge rfl (by omega) (by omega) (fun c16 => absurd c16 (by omega)) (fun c16 => ?_)
  refine wq_aload_n rfl rfl ?_
  refine wq_getfield (v := .ref (b + 1)) rfl (tW_o0 hb) rfl ?_
  refine wq_aload_n rfl rfl ?_
  refine wq_getfield (v := .int (nI tl)) rfl (tW_o0 hb) rfl ?_
  refine wq_iload_n rfl rfl ?_
  refine wn_iastore (g := ta) (h' := tW b pre tl (uN' ta tl v) suf) rfl (tW_a1 hb) (by omega) (by decide) (tW_t1 hb) ?_
  refine wq_aload_n rfl rfl ?_
  refine wq_dup rfl rfl ?_
  refine wq_getfield (v := .int (nI tl)) rfl (tW_o0 hb) rfl ?_
  refine wq_iconst (v := nI 1) rfl (by decide) ?_
  refine wn_iadd rfl ?_
  refine wq_putfield (h' := tW b pre (tl + 1) (uN' ta tl v) suf) rfl (tW_o0 hb) rfl (tW_s0_1 hb) ?_
  refine wq_vret rfl rfl ?_
  exact hQ
theorem r_Txt_letterAt {d b : Nat} {pre suf : mH} {tl : Nat} {ta : Nat → Nat} {Q : Option Value → mH → Prop} (hb : pre.length = b) {p : Nat} (hp : p < 2 ^ 31) (hl : tl ≤ 200) (hQ : Q (some (.int (nI (ltr tl ta p)))) (tW b pre tl ta suf)) : Rn mprog (d + 1) n_Txt_letterAt [.ref b, .int (nI p)] (tW b pre tl ta suf) Q := by
  refine Rn.in rfl rfl rfl ?_
  show WP _ _ _ _ 0 [.ref b, .int (nI p)] [] (tW b pre tl ta suf)
  refine wq_iload_n rfl rfl ?_
  refine wn_if_lt rfl (by omega) ?_
  refine wq_iload_n rfl rfl ?_
  refine wq_aload_n rfl rfl ?_
  refine wq_getfield (v := .int (nI tl)) rfl (tW_o0 hb) rfl ?_
  refine wn_ic_ge rfl (by omega) (by omega) (fun c9 => ?_) (fun c9 => ?_)
  · skip
    refine wq_iconst (v := nI 0) rfl (by decide) ?_
    refine wq_iret rfl trivial ?_
    rw [ltr_out (by omega)] at hQ
    exact hQ
  · skip
    refine wq_iload_n rfl rfl ?_
    refine wq_aload_n rfl rfl ?_
    refine wq_getfield (v := .ref (b + 1)) rfl (tW_o0 hb) rfl ?_
    refine wq_alen (v := nI 200) rfl (tW_a1 hb) rfl rfl ?_
    refine wn_ic_ge rfl (by omega) (by omega) (fun c18 => absurd c18 (by omega)) (fun c18 => ?_)
    refine wq_aload_n rfl rfl ?_
    refine wq_getfield (v := .ref (b + 1)) rfl (tW_o0 hb) rfl ?_
    refine wq_iload_n rfl rfl ?_
    refine wn_iaload (g := ta) rfl (tW_a1 hb) (by omega) (by decide) ?_
    refine wq_goto rfl ?_
    refine wq_iret rfl trivial ?_
    rw [ltr_in (by omega)] at hQ
    exact hQ
theorem kind_ok {κ : Nat} (h : κ < 4) : (0 : Int32) ≤ nI κ ∧ nI κ ≤ 3 := by
  rcases (show κ = 0 ∨ κ = 1 ∨ κ = 2 ∨ κ = 3 by omega) with e | e | e | e <;> subst e <;> decide
theorem ilN_le (κ : Nat) : 3 ≤ ilN κ ∧ ilN κ ≤ 4 := by
  unfold ilN
  split <;> omega
theorem r_Txt_actAt {d b : Nat} {pre suf : mH} {tl : Nat} {ta : Nat → Nat} {Q : Option Value → mH → Prop} (hb : pre.length = b) {p : Nat} (hp : p < 1000) (hl : tl ≤ 200) (hta : ∀ i, i < tl → ta i < 127) (kt : ∀ ac, itA tl ta p = some ac → Q (some (.int (nI ac))) (tW b pre tl ta suf)) (kf : itA tl ta p = none → Q (some (.int (-1))) (tW b pre tl ta suf)) : Rn mprog (d + 3) n_Txt_actAt [.ref b, .int (nI p)] (tW b pre tl ta suf) Q := by
  have hil := ilN_le (kL (ltr tl ta p))
  have hlb : ∀ q, ltr tl ta q < 127 := fun q => ltr_b hta
  have hl2 := hlb (p + ilN (kL (ltr tl ta p)) - 1)
  refine Rn.in rfl rfl rfl ?_
  show WP _ _ _ _ 0 [.ref b, .int (nI p), .long 0, .long 0, .long 0, .long 0] [] (tW b pre tl ta suf)
  refine wq_aload_n rfl rfl ?_
  refine wq_iload_n rfl rfl ?_
  refine wq_virt (b := b) (a := [.int (nI p)]) (rest := []) rfl rfl rfl rfl rfl (tW_o0 hb) ?_
  refine r_Txt_letterAt hb (by omega) hl ?_
  show WP _ _ _ _ 5 [.ref b, .int (nI p), .long 0, .long 0, .long 0, .long 0] [.int (nI (ltr tl ta p))] (tW b pre tl ta suf)
  refine wq_stat (a := [.int (nI (ltr tl ta p))]) (rest := []) rfl rfl rfl rfl rfl ?_
  refine r_Z_kindOfLetter (ltr_b hta) (fun c5 => ?_) (fun c5 => ?_)
  · skip
    show WP _ _ _ _ 8 [.ref b, .int (nI p), .long 0, .long 0, .long 0, .long 0] [.int (nI (kL (ltr tl ta p)))] (tW b pre tl ta suf)
    refine wq_istore_n (lv' := [.ref b, .int (nI p), .int (nI (kL (ltr tl ta p))), .long 0, .long 0, .long 0]) rfl rfl rfl ?_
    refine wq_iload_n rfl rfl ?_
    refine wq_stat (a := [.int (nI (kL (ltr tl ta p)))]) (rest := []) rfl rfl rfl rfl rfl ?_
    refine r_Z_isKind (fun _ => ?_) (fun c => absurd (kind_ok c5) c)
    show WP _ _ _ _ 13 [.ref b, .int (nI p), .int (nI (kL (ltr tl ta p))), .long 0, .long 0, .long 0] [.int (nI 1)] (tW b pre tl ta suf)
    refine wq_if_ne rfl (fun _ => ?_) (fun c => absurd c (by decide))
    refine wq_aload_n rfl rfl ?_
    refine wq_iload_n rfl rfl ?_
    refine wq_iconst (v := nI 1) rfl (by decide) ?_
    refine wn_iadd rfl ?_
    refine wq_virt (b := b) (a := [.int (nI (p + 1))]) (rest := []) rfl rfl rfl rfl rfl (tW_o0 hb) ?_
    refine r_Txt_letterAt hb (by omega) hl ?_
    show WP _ _ _ _ 25 [.ref b, .int (nI p), .int (nI (kL (ltr tl ta p))), .long 0, .long 0, .long 0] [.int (nI (ltr tl ta (p + 1)))] (tW b pre tl ta suf)
    refine wq_bipush (v := nI 48) rfl (by decide) ?_
    refine wq_isub (v := (nI (ltr tl ta (p + 1))) - (nI 48)) rfl rfl ?_
    refine wq_istore_n (lv' := [.ref b, .int (nI p), .int (nI (kL (ltr tl ta p))), .int ((nI (ltr tl ta (p + 1))) - (nI 48)), .long 0, .long 0]) rfl rfl rfl ?_
    refine wq_iload_n rfl rfl ?_
    refine wq_stat (a := [.int (nI (kL (ltr tl ta p)))]) (rest := []) rfl rfl rfl rfl rfl ?_
    refine r_Z_edge c5 (fun c30 => ?_) (fun c30 => ?_)
    · skip
      show WP _ _ _ _ 33 [.ref b, .int (nI p), .int (nI (kL (ltr tl ta p))), .int ((nI (ltr tl ta (p + 1))) - (nI 48)), .long 0, .long 0] [.int (nI 1)] (tW b pre tl ta suf)
      refine wq_if_eq rfl (fun c => absurd c (by decide)) (fun _ => ?_)
      refine wq_aload_n rfl rfl ?_
      refine wq_iload_n rfl rfl ?_
      refine wq_iconst (v := nI 2) rfl (by decide) ?_
      refine wn_iadd rfl ?_
      refine wq_virt (b := b) (a := [.int (nI (p + 2))]) (rest := []) rfl rfl rfl rfl rfl (tW_o0 hb) ?_
      refine r_Txt_letterAt hb (by omega) hl ?_
      show WP _ _ _ _ 43 [.ref b, .int (nI p), .int (nI (kL (ltr tl ta p))), .int ((nI (ltr tl ta (p + 1))) - (nI 48)), .long 0, .long 0] [.int (nI (ltr tl ta (p + 2)))] (tW b pre tl ta suf)
      refine wq_bipush (v := nI 48) rfl (by decide) ?_
      refine wq_isub (v := (nI (ltr tl ta (p + 2))) - (nI 48)) rfl rfl ?_
      refine wq_goto rfl ?_
      refine wq_istore (lv' := [.ref b, .int (nI p), .int (nI (kL (ltr tl ta p))), .int ((nI (ltr tl ta (p + 1))) - (nI 48)), .int ((nI (ltr tl ta (p + 2))) - (nI 48)), .long 0]) rfl rfl rfl ?_
      refine wq_aload_n rfl rfl ?_
      refine wq_iload_n rfl rfl ?_
      refine wq_iload_n rfl rfl ?_
      refine wq_stat (a := [.int (nI (kL (ltr tl ta p)))]) (rest := [.int (nI p), .ref b]) rfl rfl rfl rfl rfl ?_
      refine r_Z_ilen c5 ?_
      show WP _ _ _ _ 58 [.ref b, .int (nI p), .int (nI (kL (ltr tl ta p))), .int ((nI (ltr tl ta (p + 1))) - (nI 48)), .int ((nI (ltr tl ta (p + 2))) - (nI 48)), .long 0] [.int (nI (ilN (kL (ltr tl ta p)))), .int (nI p), .ref b] (tW b pre tl ta suf)
      refine wn_iadd rfl ?_
      refine wq_iconst (v := nI 1) rfl (by decide) ?_
      refine wn_isub rfl (by omega) ?_
      refine wq_virt (b := b) (a := [.int (nI ((p + (ilN (kL (ltr tl ta p)))) - 1))]) (rest := []) rfl rfl rfl rfl rfl (tW_o0 hb) ?_
      refine r_Txt_letterAt hb (by omega) hl ?_
      show WP _ _ _ _ 64 [.ref b, .int (nI p), .int (nI (kL (ltr tl ta p))), .int ((nI (ltr tl ta (p + 1))) - (nI 48)), .int ((nI (ltr tl ta (p + 2))) - (nI 48)), .long 0] [.int (nI (ltr tl ta ((p + (ilN (kL (ltr tl ta p)))) - 1)))] (tW b pre tl ta suf)
      refine wq_bipush (v := nI 59) rfl (by decide) ?_
      refine wn_ic_ne rfl (by omega) (by omega) (fun c66 => ?_) (fun c66 => ?_)
      · skip
        refine wq_iconst (v := nI 0) rfl (by decide) ?_
        refine wq_istore (lv' := [.ref b, .int (nI p), .int (nI (kL (ltr tl ta p))), .int ((nI (ltr tl ta (p + 1))) - (nI 48)), .int ((nI (ltr tl ta (p + 2))) - (nI 48)), .int (nI 0)]) rfl rfl rfl ?_
        refine wq_iload rfl rfl ?_
        refine wq_if_eq rfl (fun _ => ?_) (fun c => absurd c (by decide))
        refine wq_iconst (v := (-1)) rfl (by decide) ?_
        refine wq_iret rfl trivial ?_
        exact kf (itA_n rfl (fun z => c66 z.2.2.2))
      · skip
        refine wq_iconst (v := nI 1) rfl (by decide) ?_
        refine wq_goto rfl ?_
        refine wq_istore (lv' := [.ref b, .int (nI p), .int (nI (kL (ltr tl ta p))), .int ((nI (ltr tl ta (p + 1))) - (nI 48)), .int ((nI (ltr tl ta (p + 2))) - (nI 48)), .int (nI 1)]) rfl rfl rfl ?_
        refine wq_iload rfl rfl ?_
        refine wq_if_eq rfl (fun c => absurd c (by decide)) (fun _ => ?_)
        refine wq_iload_n rfl rfl ?_
        refine wq_stat (a := [.int ((nI (ltr tl ta (p + 1))) - (nI 48))]) (rest := []) rfl rfl rfl rfl rfl ?_
        refine r_Z_isPoint (fun c82 => ?_) (fun c82 => ?_)
        · skip
          show WP _ _ _ _ 85 [.ref b, .int (nI p), .int (nI (kL (ltr tl ta p))), .int ((nI (ltr tl ta (p + 1))) - (nI 48)), .int ((nI (ltr tl ta (p + 2))) - (nI 48)), .int (nI 1)] [.int (nI 1)] (tW b pre tl ta suf)
          refine wq_if_eq rfl (fun c => absurd c (by decide)) (fun _ => ?_)
          refine wq_iload rfl rfl ?_
          refine wq_stat (a := [.int ((nI (ltr tl ta (p + 2))) - (nI 48))]) (rest := []) rfl rfl rfl rfl rfl ?_
          refine r_Z_isPoint (fun c90 => ?_) (fun c90 => ?_)
          · skip
            show WP _ _ _ _ 93 [.ref b, .int (nI p), .int (nI (kL (ltr tl ta p))), .int ((nI (ltr tl ta (p + 1))) - (nI 48)), .int ((nI (ltr tl ta (p + 2))) - (nI 48)), .int (nI 1)] [.int (nI 1)] (tW b pre tl ta suf)
            refine wq_if_eq rfl (fun c => absurd c (by decide)) (fun _ => ?_)
            refine wq_iload_n rfl rfl ?_
            refine wq_iload_n rfl rfl ?_
            refine wq_iload rfl rfl ?_
            refine wq_stat (a := [.int (nI (kL (ltr tl ta p))), .int ((nI (ltr tl ta (p + 1))) - (nI 48)), .int ((nI (ltr tl ta (p + 2))) - (nI 48))]) (rest := []) rfl rfl rfl rfl rfl ?_
            have f1 := (fig_pt (ltr_b hta)).mp c82
            have f2 := (fig_pt (ltr_b hta)).mp c90
            have f1b := f1
            have f2b := f2
            unfold figL at f1b f2b
            refine r_Z_actOf (fig_sub (ltr_b hta) f1) (fig_sub (ltr_b hta) f2) c5 (by omega) (Or.inr (by omega)) ?_
            show WP _ _ _ _ 103 [.ref b, .int (nI p), .int (nI (kL (ltr tl ta p))), .int ((nI (ltr tl ta (p + 1))) - (nI 48)), .int ((nI (ltr tl ta (p + 2))) - (nI 48)), .int (nI 1)] [.int (nI (acN (kL (ltr tl ta p)) (ltr tl ta (p + 1) - 48) (ltr tl ta (p + 2) - 48)))] (tW b pre tl ta suf)
            refine wq_goto rfl ?_
            refine wq_iret rfl trivial ?_
            refine kt _ ?_
            rw [itA_y rfl c5 f1 (Or.inr f2) c66, if_neg (by omega)]
          · skip
            show WP _ _ _ _ 93 [.ref b, .int (nI p), .int (nI (kL (ltr tl ta p))), .int ((nI (ltr tl ta (p + 1))) - (nI 48)), .int ((nI (ltr tl ta (p + 2))) - (nI 48)), .int (nI 1)] [.int (nI 0)] (tW b pre tl ta suf)
            refine wq_if_eq rfl (fun _ => ?_) (fun c => absurd c (by decide))
            refine wq_iconst (v := (-1)) rfl (by decide) ?_
            refine wq_iret rfl trivial ?_
            exact kf (itA_n rfl (fun z => c90 ((fig_pt (ltr_b hta)).mpr (z.2.2.1.resolve_left (by omega)))))
        · skip
          show WP _ _ _ _ 85 [.ref b, .int (nI p), .int (nI (kL (ltr tl ta p))), .int ((nI (ltr tl ta (p + 1))) - (nI 48)), .int ((nI (ltr tl ta (p + 2))) - (nI 48)), .int (nI 1)] [.int (nI 0)] (tW b pre tl ta suf)
          refine wq_if_eq rfl (fun _ => ?_) (fun c => absurd c (by decide))
          refine wq_iconst (v := (-1)) rfl (by decide) ?_
          refine wq_iret rfl trivial ?_
          exact kf (itA_n rfl (fun z => c82 ((fig_pt (ltr_b hta)).mpr z.2.1)))
    · skip
      show WP _ _ _ _ 33 [.ref b, .int (nI p), .int (nI (kL (ltr tl ta p))), .int ((nI (ltr tl ta (p + 1))) - (nI 48)), .long 0, .long 0] [.int (nI 0)] (tW b pre tl ta suf)
      refine wq_if_eq rfl (fun _ => ?_) (fun c => absurd c (by decide))
      refine wq_iload_n rfl rfl ?_
      refine wq_istore (lv' := [.ref b, .int (nI p), .int (nI (kL (ltr tl ta p))), .int ((nI (ltr tl ta (p + 1))) - (nI 48)), .int ((nI (ltr tl ta (p + 1))) - (nI 48)), .long 0]) rfl rfl rfl ?_
      refine wq_aload_n rfl rfl ?_
      refine wq_iload_n rfl rfl ?_
      refine wq_iload_n rfl rfl ?_
      refine wq_stat (a := [.int (nI (kL (ltr tl ta p)))]) (rest := [.int (nI p), .ref b]) rfl rfl rfl rfl rfl ?_
      refine r_Z_ilen c5 ?_
      show WP _ _ _ _ 58 [.ref b, .int (nI p), .int (nI (kL (ltr tl ta p))), .int ((nI (ltr tl ta (p + 1))) - (nI 48)), .int ((nI (ltr tl ta (p + 1))) - (nI 48)), .long 0] [.int (nI (ilN (kL (ltr tl ta p)))), .int (nI p), .ref b] (tW b pre tl ta suf)
      refine wn_iadd rfl ?_
      refine wq_iconst (v := nI 1) rfl (by decide) ?_
      refine wn_isub rfl (by omega) ?_
      refine wq_virt (b := b) (a := [.int (nI ((p + (ilN (kL (ltr tl ta p)))) - 1))]) (rest := []) rfl rfl rfl rfl rfl (tW_o0 hb) ?_
      refine r_Txt_letterAt hb (by omega) hl ?_
      show WP _ _ _ _ 64 [.ref b, .int (nI p), .int (nI (kL (ltr tl ta p))), .int ((nI (ltr tl ta (p + 1))) - (nI 48)), .int ((nI (ltr tl ta (p + 1))) - (nI 48)), .long 0] [.int (nI (ltr tl ta ((p + (ilN (kL (ltr tl ta p)))) - 1)))] (tW b pre tl ta suf)
      refine wq_bipush (v := nI 59) rfl (by decide) ?_
      refine wn_ic_ne rfl (by omega) (by omega) (fun c66 => ?_) (fun c66 => ?_)
      · skip
        refine wq_iconst (v := nI 0) rfl (by decide) ?_
        refine wq_istore (lv' := [.ref b, .int (nI p), .int (nI (kL (ltr tl ta p))), .int ((nI (ltr tl ta (p + 1))) - (nI 48)), .int ((nI (ltr tl ta (p + 1))) - (nI 48)), .int (nI 0)]) rfl rfl rfl ?_
        refine wq_iload rfl rfl ?_
        refine wq_if_eq rfl (fun _ => ?_) (fun c => absurd c (by decide))
        refine wq_iconst (v := (-1)) rfl (by decide) ?_
        refine wq_iret rfl trivial ?_
        exact kf (itA_n rfl (fun z => c66 z.2.2.2))
      · skip
        refine wq_iconst (v := nI 1) rfl (by decide) ?_
        refine wq_goto rfl ?_
        refine wq_istore (lv' := [.ref b, .int (nI p), .int (nI (kL (ltr tl ta p))), .int ((nI (ltr tl ta (p + 1))) - (nI 48)), .int ((nI (ltr tl ta (p + 1))) - (nI 48)), .int (nI 1)]) rfl rfl rfl ?_
        refine wq_iload rfl rfl ?_
        refine wq_if_eq rfl (fun c => absurd c (by decide)) (fun _ => ?_)
        refine wq_iload_n rfl rfl ?_
        refine wq_stat (a := [.int ((nI (ltr tl ta (p + 1))) - (nI 48))]) (rest := []) rfl rfl rfl rfl rfl ?_
        refine r_Z_isPoint (fun c82 => ?_) (fun c82 => ?_)
        · skip
          show WP _ _ _ _ 85 [.ref b, .int (nI p), .int (nI (kL (ltr tl ta p))), .int ((nI (ltr tl ta (p + 1))) - (nI 48)), .int ((nI (ltr tl ta (p + 1))) - (nI 48)), .int (nI 1)] [.int (nI 1)] (tW b pre tl ta suf)
          refine wq_if_eq rfl (fun c => absurd c (by decide)) (fun _ => ?_)
          refine wq_iload rfl rfl ?_
          refine wq_stat (a := [.int ((nI (ltr tl ta (p + 1))) - (nI 48))]) (rest := []) rfl rfl rfl rfl rfl ?_
          refine r_Z_isPoint (fun c90 => ?_) (fun c90 => ?_)
          · skip
            show WP _ _ _ _ 93 [.ref b, .int (nI p), .int (nI (kL (ltr tl ta p))), .int ((nI (ltr tl ta (p + 1))) - (nI 48)), .int ((nI (ltr tl ta (p + 1))) - (nI 48)), .int (nI 1)] [.int (nI 1)] (tW b pre tl ta suf)
            refine wq_if_eq rfl (fun c => absurd c (by decide)) (fun _ => ?_)
            refine wq_iload_n rfl rfl ?_
            refine wq_iload_n rfl rfl ?_
            refine wq_iload rfl rfl ?_
            refine wq_stat (a := [.int (nI (kL (ltr tl ta p))), .int ((nI (ltr tl ta (p + 1))) - (nI 48)), .int ((nI (ltr tl ta (p + 1))) - (nI 48))]) (rest := []) rfl rfl rfl rfl rfl ?_
            have f1 := (fig_pt (ltr_b hta)).mp c82
            have f1b := f1
            unfold figL at f1b
            refine r_Z_actOf (fig_sub (ltr_b hta) f1) (fig_sub (ltr_b hta) f1) c5 (by omega) (Or.inl c30) ?_
            show WP _ _ _ _ 103 [.ref b, .int (nI p), .int (nI (kL (ltr tl ta p))), .int ((nI (ltr tl ta (p + 1))) - (nI 48)), .int ((nI (ltr tl ta (p + 1))) - (nI 48)), .int (nI 1)] [.int (nI (acN (kL (ltr tl ta p)) (ltr tl ta (p + 1) - 48) (ltr tl ta (p + 1) - 48)))] (tW b pre tl ta suf)
            refine wq_goto rfl ?_
            refine wq_iret rfl trivial ?_
            refine kt _ ?_
            rw [itA_y rfl c5 f1 (Or.inl c30) c66, if_pos c30]
            exact congrArg some (acN_b c30)
          · skip
            show WP _ _ _ _ 93 [.ref b, .int (nI p), .int (nI (kL (ltr tl ta p))), .int ((nI (ltr tl ta (p + 1))) - (nI 48)), .int ((nI (ltr tl ta (p + 1))) - (nI 48)), .int (nI 1)] [.int (nI 0)] (tW b pre tl ta suf)
            refine wq_if_eq rfl (fun _ => ?_) (fun c => absurd c (by decide))
            refine wq_iconst (v := (-1)) rfl (by decide) ?_
            refine wq_iret rfl trivial ?_
            exact kf (itA_n rfl (fun z => c90 ((fig_pt (ltr_b hta)).mpr z.2.1)))
        · skip
          show WP _ _ _ _ 85 [.ref b, .int (nI p), .int (nI (kL (ltr tl ta p))), .int ((nI (ltr tl ta (p + 1))) - (nI 48)), .int ((nI (ltr tl ta (p + 1))) - (nI 48)), .int (nI 1)] [.int (nI 0)] (tW b pre tl ta suf)
          refine wq_if_eq rfl (fun _ => ?_) (fun c => absurd c (by decide))
          refine wq_iconst (v := (-1)) rfl (by decide) ?_
          refine wq_iret rfl trivial ?_
          exact kf (itA_n rfl (fun z => c82 ((fig_pt (ltr_b hta)).mpr z.2.1)))
  · skip
    show WP _ _ _ _ 8 [.ref b, .int (nI p), .long 0, .long 0, .long 0, .long 0] [.int ((-1))] (tW b pre tl ta suf)
    refine wq_istore_n (lv' := [.ref b, .int (nI p), .int ((-1)), .long 0, .long 0, .long 0]) rfl rfl rfl ?_
    refine wq_iload_n rfl rfl ?_
    refine wq_stat (a := [.int ((-1))]) (rest := []) rfl rfl rfl rfl rfl ?_
    refine r_Z_isKind (fun c => absurd c (by decide)) (fun _ => ?_)
    show WP _ _ _ _ 13 [.ref b, .int (nI p), .int ((-1)), .long 0, .long 0, .long 0] [.int (nI 0)] (tW b pre tl ta suf)
    refine wq_if_ne rfl (fun c => absurd c (by decide)) (fun _ => ?_)
    refine wq_iconst (v := (-1)) rfl (by decide) ?_
    refine wq_iret rfl trivial ?_
    exact kf (itA_n c5 (fun z => absurd z.1 (by decide)))
