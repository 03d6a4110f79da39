/-! shelves of rows -/
def rcs (c : Nat) (rs : Nat → Rw) : Nat → mH
  | 0 => []
  | n + 1 => .inr (3, [.ref (c + 1), .int (nI (rs 0).1)]) :: .inl (0, 40, .inl (nA (rs 0).2)) :: rcs (c + 2) (fun j => rs (j + 1)) n
theorem rcs_len : ∀ n c rs, (rcs c rs n).length = 2 * n
  | 0, _, _ => rfl
  | n + 1, c, rs => by
    show (rcs (c + 2) (fun j => rs (j + 1)) n).length + 1 + 1 = _
    rw [rcs_len n]
    omega
theorem rcs_congr : ∀ n c rs rs', (∀ j, j < n → rs j = rs' j) → rcs c rs n = rcs c rs' n
  | 0, _, _, _, _ => rfl
  | n + 1, c, rs, rs', h => by
    unfold rcs
    rw [h 0 (by omega), rcs_congr n (c + 2) (fun j => rs (j + 1)) (fun j => rs' (j + 1)) (fun j hj => h (j + 1) (by omega))]
theorem rcs_split : ∀ p n c rs, p < n → rcs c rs n = rcs c rs p ++ (.inr (3, [.ref (c + 2 * p + 1), .int (nI (rs p).1)]) :: .inl (0, 40, .inl (nA (rs p).2)) :: rcs (c + 2 * p + 2) (fun j => rs (j + (p + 1))) (n - p - 1))
  | 0, n, c, rs, h => by
    cases n with
    | zero => omega
    | succ n => rfl
  | p + 1, n, c, rs, h => by
    cases n with
    | zero => omega
    | succ n =>
      have q := rcs_split p n (c + 2) (fun j => rs (j + 1)) (by omega)
      show _ :: _ :: rcs (c + 2) (fun j => rs (j + 1)) n = _ :: _ :: (rcs (c + 2) (fun j => rs (j + 1)) p ++ _)
      rw [q, show c + 2 + 2 * p = c + 2 * (p + 1) by omega, show n + 1 - (p + 1) - 1 = n - p - 1 by omega]
      rfl
def uR (rs : Nat → Rw) (p : Nat) (r : Rw) : Nat → Rw := fun j => if j = p then r else rs j
theorem uR_s {rs : Nat → Rw} {p : Nat} {r : Rw} : uR rs p r p = r := if_pos rfl
theorem uR_n {rs : Nat → Rw} {p j : Nat} {r : Rw} (h : j ≠ p) : uR rs p r j = rs j := if_neg h
def sgA (b : Nat) (σ : Nat → Nat) : Nat → Option Nat := fun j => some (b + 2 + 2 * σ j)
theorem sgA_up {b i p : Nat} {σ : Nat → Nat} : va_up (sgA b σ) i (some (b + 2 + 2 * p)) = sgA b (uN' σ i p) := by
  funext j
  unfold va_up sgA uN'
  by_cases e : j = i
  · rw [if_pos e, if_pos e]
  · rw [if_neg e, if_neg e]
theorem wn_aaload {cal : mC} {C : List (Nat × mE)} {rt : Option FieldType} {Q : Option Value → mH → Prop} {pc nx x y z : Nat} {lv st : List Value} {h : mH} {n a b i : Nat} {σ : Nat → Nat} (hf : mfetch C pc = some (.aaload, nx, x, y, z)) (ho : h[a]? = some (.inl (2, n, .inr (.inr (.inr (.inr (sgA b σ))))))) (hi : i < n) (hn : n < 2 ^ 31) (k : WP cal C rt Q nx lv (.ref (b + 2 + 2 * σ i) :: st) h) : WP cal C rt Q pc lv (.int (nI i) :: .ref a :: st) h := wq_aaload hf ho (vp_in_nI hi hn) (by rw [nI_clamp (by omega)]; rfl) k
theorem wn_aastore {cal : mC} {C : List (Nat × mE)} {rt : Option FieldType} {Q : Option Value → mH → Prop} {pc nx x y z : Nat} {lv st : List Value} {h : mH} {n a b i p : Nat} {fs : List Value} {σ : Nat → Nat} {h' : mH} (hf : mfetch C pc = some (.aastore, nx, x, y, z)) (ho : h[a]? = some (.inl (2, n, .inr (.inr (.inr (.inr (sgA b σ))))))) (hq : h[b + 2 + 2 * p]? = some (.inr (3, fs))) (hi : i < n) (hn : n < 2 ^ 31) (hs : h.set a (.inl (2, n, .inr (.inr (.inr (.inr (sgA b (uN' σ i p))))))) = h') (k : WP cal C rt Q nx lv st h') : WP cal C rt Q pc lv (.ref (b + 2 + 2 * p) :: .int (nI i) :: .ref a :: st) h := wq_aastore hf ho hq (vp_in_nI hi hn) (by rw [nI_clamp (by omega), sgA_up]; exact hs) k
def hW (b : Nat) (pre : mH) (sz : Nat) (σ : Nat → Nat) (rs : Nat → Rw) (N : Nat) (suf : mH) : mH := pre ++ (.inr (4, [.ref (b + 1), .int (nI sz)]) :: .inl (2, N, .inr (.inr (.inr (.inr (sgA b σ))))) :: (rcs (b + 2) rs N ++ suf))
theorem hW_o {b : Nat} {pre suf : mH} {sz N : Nat} {σ : Nat → Nat} {rs : Nat → Rw} (hb : pre.length = b) : (hW b pre sz σ rs N suf)[b]? = some (.inr (4, [.ref (b + 1), .int (nI sz)])) := ap_get0 hb
theorem hW_s {b : Nat} {pre suf : mH} {sz N : Nat} {σ : Nat → Nat} {rs : Nat → Rw} (hb : pre.length = b) {v : Nat} : (hW b pre sz σ rs N suf).set b (.inr (4, [.ref (b + 1), .int (nI sz)].set 1 (.int (nI v)))) = hW b pre v σ rs N suf := ap_set0 hb
theorem hW_a {b : Nat} {pre suf : mH} {sz N : Nat} {σ : Nat → Nat} {rs : Nat → Rw} (hb : pre.length = b) : (hW b pre sz σ rs N suf)[b + 1]? = some (.inl (2, N, .inr (.inr (.inr (.inr (sgA b σ)))))) := ap_get hb
theorem hW_t {b : Nat} {pre suf : mH} {sz N : Nat} {σ σ' : Nat → Nat} {rs : Nat → Rw} (hb : pre.length = b) : (hW b pre sz σ rs N suf).set (b + 1) (.inl (2, N, .inr (.inr (.inr (.inr (sgA b σ')))))) = hW b pre sz σ' rs N suf := ap_set hb
def hPre (b : Nat) (pre : mH) (sz : Nat) (σ : Nat → Nat) (rs : Nat → Rw) (N p : Nat) : mH := pre ++ (.inr (4, [.ref (b + 1), .int (nI sz)]) :: .inl (2, N, .inr (.inr (.inr (.inr (sgA b σ))))) :: rcs (b + 2) rs p)
theorem hPre_len {b : Nat} {pre : mH} {sz N p : Nat} {σ : Nat → Nat} {rs : Nat → Rw} (hb : pre.length = b) : (hPre b pre sz σ rs N p).length = b + 2 + 2 * p := by
  unfold hPre
  rw [List.length_append, List.length_cons, List.length_cons, rcs_len, hb]
  omega
theorem hW_row {b : Nat} {pre suf : mH} {sz N p : Nat} {σ : Nat → Nat} {rs : Nat → Rw} (hp : p < N) : hW b pre sz σ rs N suf = rW (b + 2 + 2 * p) (hPre b pre sz σ rs N p) (rs p).1 (rs p).2 (rcs (b + 2 + 2 * p + 2) (fun j => rs (j + (p + 1))) (N - p - 1) ++ suf) := by
  unfold hW rW hPre
  rw [rcs_split p N (b + 2) rs hp]
  simp only [List.append_assoc, List.cons_append]
theorem hW_back {b : Nat} {pre suf : mH} {sz N p x : Nat} {σ y : Nat → Nat} {rs : Nat → Rw} (hp : p < N) : rW (b + 2 + 2 * p) (hPre b pre sz σ rs N p) x y (rcs (b + 2 + 2 * p + 2) (fun j => rs (j + (p + 1))) (N - p - 1) ++ suf) = hW b pre sz σ (uR rs p (x, y)) N suf := by
  rw [hW_row (rs := uR rs p (x, y)) hp, uR_s]
  have e1 : hPre b pre sz σ (uR rs p (x, y)) N p = hPre b pre sz σ rs N p := by
    unfold hPre
    rw [rcs_congr p (b + 2) (uR rs p (x, y)) rs (fun j hj => uR_n (by omega))]
  rw [e1, rcs_congr _ _ (fun j => uR rs p (x, y) (j + (p + 1))) (fun j => rs (j + (p + 1))) (fun j _ => uR_n (by omega))]
theorem hW_get {b : Nat} {pre suf : mH} {sz N p : Nat} {σ : Nat → Nat} {rs : Nat → Rw} (hb : pre.length = b) (hp : p < N) : (hW b pre sz σ rs N suf)[b + 2 + 2 * p]? = some (.inr (3, [.ref (b + 2 + 2 * p + 1), .int (nI (rs p).1)])) := by
  rw [hW_row hp]
  exact rW_o0 (hPre_len hb)
theorem hW_get1 {b : Nat} {pre suf : mH} {sz N p : Nat} {σ : Nat → Nat} {rs : Nat → Rw} (hb : pre.length = b) (hp : p < N) : (hW b pre sz σ rs N suf)[b + 2 + 2 * p + 1]? = some (.inl (0, 40, .inl (nA (rs p).2))) := by
  rw [hW_row hp]
  exact rW_a1 (hPre_len hb)
def SI (N : Nat) (σ : Nat → Nat) : Prop := (∀ j, j < N → σ j < N) ∧ ∀ i j, i < N → j < N → σ i = σ j → i = j
def EqR (r r' : Rw) : Prop := r.1 = r'.1 ∧ ∀ i, i < r.1 → r.2 i = r'.2 i
theorem EqR_tr {r s t : Rw} (h : EqR r s) (h' : EqR s t) : EqR r t := ⟨h.1.trans h'.1, fun i hi => (h.2 i hi).trans (h'.2 i (by rw [← h.1]; exact hi))⟩
theorem SI_rot {N : Nat} {σ σ' : Nat → Nat} (h : SI N σ) (hN : 1 ≤ N) (h1 : ∀ j, j + 1 < N → σ' j = σ (j + 1)) (h2 : σ' (N - 1) = σ 0) : SI N σ' := by
  have e : ∀ j, j < N → σ' j = σ (if j + 1 < N then j + 1 else 0) := fun j hj => by
    by_cases q : j + 1 < N
    · rw [if_pos q]; exact h1 j q
    · rw [if_neg q, ← h2]; congr 1; omega
  refine ⟨fun j hj => ?_, fun i j hi hj z => ?_⟩
  · rw [e j hj]; exact h.1 _ (by split <;> omega)
  · rw [e i hi, e j hj] at z
    have := h.2 _ _ (by split <;> omega) (by split <;> omega) z
    split at this <;> split at this <;> omega
theorem r_Shf_size {d b : Nat} {pre suf : mH} {sz N : Nat} {σ : Nat → Nat} {rs : Nat → Rw} {Q : Option Value → mH → Prop} (hb : pre.length = b) (hQ : Q (some (.int (nI sz))) (hW b pre sz σ rs N suf)) : Rn mprog (d + 1) n_Shf_size [.ref b] (hW b pre sz σ rs N suf) Q := by
  refine Rn.in rfl rfl rfl ?_
  show WP _ _ _ _ 0 [.ref b] [] (hW b pre sz σ rs N suf)
  refine wq_aload_n rfl rfl ?_
  refine wq_getfield (v := .int (nI sz)) rfl (hW_o hb) rfl ?_
  refine wq_iret rfl trivial ?_
  exact hQ
theorem r_Shf_empty {d b : Nat} {pre suf : mH} {sz N : Nat} {σ : Nat → Nat} {rs : Nat → Rw} {Q : Option Value → mH → Prop} (hb : pre.length = b) (hQ : Q none (hW b pre 0 σ rs N suf)) : Rn mprog (d + 1) n_Shf_empty [.ref b] (hW b pre sz σ rs N suf) Q := by
  refine Rn.in rfl rfl rfl ?_
  show WP _ _ _ _ 0 [.ref b] [] (hW b pre sz σ rs N suf)
  refine wq_aload_n rfl rfl ?_
  refine wq_iconst (v := nI 0) rfl (by decide) ?_
  refine wq_putfield (h' := hW b pre 0 σ rs N suf) rfl (hW_o hb) rfl (hW_s hb) ?_
  refine wq_vret rfl rfl ?_
  exact hQ
theorem r_Shf_last {d b : Nat} {pre suf : mH} {sz N : Nat} {σ : Nat → Nat} {rs : Nat → Rw} {Q : Option Value → mH → Prop} (hb : pre.length = b) (hN : N ≤ 6) (h1 : 1 ≤ sz) (h2 : sz ≤ N) (hQ : Q (some (.ref (b + 2 + 2 * σ (sz - 1)))) (hW b pre sz σ rs N suf)) : Rn mprog (d + 1) n_Shf_last [.ref b] (hW b pre sz σ rs N suf) Q := by
  refine Rn.in rfl rfl rfl ?_
  show WP _ _ _ _ 0 [.ref b] [] (hW b pre sz σ rs N suf)
  refine wq_aload_n rfl rfl ?_
  refine wq_getfield (v := .int (nI sz)) rfl (hW_o hb) rfl ?_
  refine wq_iconst (v := nI 1) rfl (by decide) ?_
  refine wn_ic_lt rfl (by omega) (by omega) (fun c5 => absurd c5 (by omega)) (fun c5 => ?_)
  refine wq_aload_n rfl rfl ?_
  refine wq_getfield (v := .int (nI sz)) rfl (hW_o hb) rfl ?_
  refine wq_aload_n rfl rfl ?_
  refine wq_getfield (v := .ref (b + 1)) rfl (hW_o hb) rfl ?_
  refine wq_alen (v := nI N) rfl (hW_a hb) rfl rfl ?_
  refine wn_ic_gt rfl (by omega) (by omega) (fun c17 => absurd c17 (by omega)) (fun c17 => ?_)
  refine wq_aload_n rfl rfl ?_
  refine wq_getfield (v := .ref (b + 1)) rfl (hW_o hb) rfl ?_
  refine wq_aload_n rfl rfl ?_
  refine wq_getfield (v := .int (nI sz)) rfl (hW_o hb) rfl ?_
  refine wq_iconst (v := nI 1) rfl (by decide) ?_
  refine wn_isub rfl (by omega) ?_
  refine wn_aaload rfl (hW_a hb) (by omega) (by omega) ?_
  refine wq_goto rfl ?_
  refine wq_aret rfl trivial ?_
  exact hQ
theorem r_Shf_last0 {d b : Nat} {pre suf : mH} {N : Nat} {σ : Nat → Nat} {rs : Nat → Rw} {Q : Option Value → mH → Prop} (hb : pre.length = b) (hN : N ≤ 6) (hQ : Q (some .null) (hW b pre 0 σ rs N suf)) : Rn mprog (d + 1) n_Shf_last [.ref b] (hW b pre 0 σ rs N suf) Q := by
  refine Rn.in rfl rfl rfl ?_
  show WP _ _ _ _ 0 [.ref b] [] (hW b pre 0 σ rs N suf)
  refine wq_aload_n rfl rfl ?_
  refine wq_getfield (v := .int (nI 0)) rfl (hW_o hb) rfl ?_
  refine wq_iconst (v := nI 1) rfl (by decide) ?_
  refine wq_ic_lt rfl (fun _ => ?_) (fun c => absurd c (by decide))
  refine wq_null rfl ?_
  refine wq_aretN rfl trivial ?_
  exact hQ
theorem r_Shf_removeLast {d b : Nat} {pre suf : mH} {sz N : Nat} {σ : Nat → Nat} {rs : Nat → Rw} {Q : Option Value → mH → Prop} (hb : pre.length = b) (hN : N ≤ 6) (h1 : 1 ≤ sz) (h2 : sz ≤ N) (hQ : Q none (hW b pre (sz - 1) σ rs N suf)) : Rn mprog (d + 1) n_Shf_removeLast [.ref b] (hW b pre sz σ rs N suf) Q := by
  refine Rn.in rfl rfl rfl ?_
  show WP _ _ _ _ 0 [.ref b] [] (hW b pre sz σ rs N suf)
  refine wq_aload_n rfl rfl ?_
  refine wq_getfield (v := .int (nI sz)) rfl (hW_o hb) rfl ?_
  refine wn_if_le rfl (by omega) (fun c4 => absurd c4 (by omega)) (fun c4 => ?_)
  refine wq_aload_n rfl rfl ?_
  refine wq_dup rfl rfl ?_
  refine wq_getfield (v := .int (nI sz)) rfl (hW_o hb) rfl ?_
  refine wq_iconst (v := nI 1) rfl (by decide) ?_
  refine wn_isub rfl (by omega) ?_
  refine wq_putfield (h' := hW b pre (sz - 1) σ rs N suf) rfl (hW_o hb) rfl (hW_s hb) ?_
  refine wq_vret rfl rfl ?_
  exact hQ
theorem l_Shf_lose {d b : Nat} {pre suf : mH} {sz N : Nat} {σ : Nat → Nat} {rs : Nat → Rw} {Q : Option Value → mH → Prop} (hb : pre.length = b) (hN : N ≤ 6) (hS : SI N σ) (K : ∀ σ', (∀ j, j + 1 < N → σ' j = σ (j + 1)) → WP (Rn mprog d) k_Shf_loseOldest none Q 38 [.ref b, .ref (b + 2 + 2 * σ 0), .int (nI N)] [] (hW b pre sz σ' rs N suf)) : ∀ (m i : Nat) (σ' : Nat → Nat), i + m = N → 1 ≤ i → (∀ j, j + 1 < i → σ' j = σ (j + 1)) → (∀ j, i ≤ j + 1 → σ' j = σ j) → WP (Rn mprog d) k_Shf_loseOldest none Q 9 [.ref b, .ref (b + 2 + 2 * σ 0), .int (nI i)] [] (hW b pre sz σ' rs N suf) := by
  intro m
  induction m with
  | zero =>
    intro i σ' hi h1 h2 h3
    have e : i = N := by omega
    subst e
    refine wq_iload_n rfl rfl ?_
    refine wq_aload_n rfl rfl ?_
    refine wq_getfield (v := .ref (b + 1)) rfl (hW_o hb) rfl ?_
    refine wq_alen (v := nI i) rfl (hW_a hb) rfl rfl ?_
    refine wn_ic_ge rfl (by omega) (by omega) (fun c15 => ?_) (fun c15 => absurd c15 (by omega))
    exact K σ' h2
  | succ m ih =>
    intro i σ' hi h1 h2 h3
    have hp : σ' i < N := by rw [h3 i (by omega)]; exact hS.1 i (by omega)
    refine wq_iload_n rfl rfl ?_
    refine wq_aload_n rfl rfl ?_
    refine wq_getfield (v := .ref (b + 1)) rfl (hW_o hb) rfl ?_
    refine wq_alen (v := nI N) rfl (hW_a hb) rfl rfl ?_
    refine wn_ic_ge rfl (by omega) (by omega) (fun c15 => absurd c15 (by omega)) (fun c15 => ?_)
    refine wq_aload_n rfl rfl ?_
    refine wq_getfield (v := .ref (b + 1)) rfl (hW_o hb) rfl ?_
    refine wq_iload_n rfl rfl ?_
    refine wq_iconst (v := nI 1) rfl (by decide) ?_
    refine wn_isub rfl (by omega) ?_
    refine wq_aload_n rfl rfl ?_
    refine wq_getfield (v := .ref (b + 1)) rfl (hW_o hb) rfl ?_
    refine wq_iload_n rfl rfl ?_
    refine wn_aaload rfl (hW_a hb) (by omega) (by omega) ?_
    refine wn_aastore (h' := hW b pre sz (uN' σ' (i - 1) (σ' i)) rs N suf) rfl (hW_a hb) (hW_get hb hp) (by omega) (by omega) (hW_t hb) ?_
    refine wn_inc (lv' := [.ref b, .ref (b + 2 + 2 * σ 0), .int (nI (i + 1))]) rfl rfl rfl ?_
    refine wq_goto rfl ?_
    exact ih (i + 1) _ (by omega) (by omega) (fun j hj => if e : j = i - 1 then (by rw [e, uN_s, h3 i (by omega)]; congr 1; omega) else (by rw [uN_n e]; exact h2 j (by omega))) (fun j hj => by rw [uN_n (by omega)]; exact h3 j (by omega))
theorem r_Shf_lose {d b : Nat} {pre suf : mH} {sz N : Nat} {σ : Nat → Nat} {rs : Nat → Rw} {Q : Option Value → mH → Prop} (hb : pre.length = b) (hN1 : 1 ≤ N) (hN : N ≤ 6) (hS : SI N σ) (hQ : ∀ σ', (∀ j, j + 1 < N → σ' j = σ (j + 1)) → σ' (N - 1) = σ 0 → Q none (hW b pre (N - 1) σ' rs N suf)) : Rn mprog (d + 1) n_Shf_loseOldest [.ref b] (hW b pre sz σ rs N suf) Q := by
  refine Rn.in rfl rfl rfl ?_
  show WP _ _ _ _ 0 [.ref b, .long 0, .long 0] [] (hW b pre sz σ rs N suf)
  refine wq_aload_n rfl rfl ?_
  refine wq_getfield (v := .ref (b + 1)) rfl (hW_o hb) rfl ?_
  refine wq_iconst (v := nI 0) rfl (by decide) ?_
  refine wn_aaload rfl (hW_a hb) (by omega) (by omega) ?_
  refine wq_astore_n (lv' := [.ref b, .ref (b + 2 + 2 * σ 0), .long 0]) rfl rfl rfl ?_
  refine wq_iconst (v := nI 1) rfl (by decide) ?_
  refine wq_istore_n (lv' := [.ref b, .ref (b + 2 + 2 * σ 0), .int (nI 1)]) rfl rfl rfl ?_
  refine l_Shf_lose hb hN hS ?_ (N - 1) 1 _ (by omega) (by omega) (fun j hj => absurd hj (by omega)) (fun j _ => rfl)
  intro σ' h1
  show WP _ _ _ _ 38 [.ref b, .ref (b + 2 + 2 * σ 0), .int (nI N)] [] (hW b pre sz σ' rs N suf)
  refine wq_aload_n rfl rfl ?_
  refine wq_getfield (v := .ref (b + 1)) rfl (hW_o hb) rfl ?_
  refine wq_aload_n rfl rfl ?_
  refine wq_getfield (v := .ref (b + 1)) rfl (hW_o hb) rfl ?_
  refine wq_alen (v := nI N) rfl (hW_a hb) rfl rfl ?_
  refine wq_iconst (v := nI 1) rfl (by decide) ?_
  refine wn_isub rfl (by omega) ?_
  refine wq_aload_n rfl rfl ?_
  refine wn_aastore (h' := hW b pre sz (uN' σ' (N - 1) (σ 0)) rs N suf) rfl (hW_a hb) (hW_get hb (hS.1 0 (by omega))) (by omega) (by omega) (hW_t hb) ?_
  refine wq_aload_n rfl rfl ?_
  refine wq_aload_n rfl rfl ?_
  refine wq_getfield (v := .ref (b + 1)) rfl (hW_o hb) rfl ?_
  refine wq_alen (v := nI N) rfl (hW_a hb) rfl rfl ?_
  refine wq_iconst (v := nI 1) rfl (by decide) ?_
  refine wn_isub rfl (by omega) ?_
  refine wq_putfield (h' := hW b pre (N - 1) (uN' σ' (N - 1) (σ 0)) rs N suf) rfl (hW_o hb) rfl (hW_s hb) ?_
  refine wq_vret rfl rfl ?_
  exact hQ _ (fun j hj => by rw [uN_n (by omega)]; exact h1 j hj) uN_s
theorem r_hW_copy {d b : Nat} {pre suf : mH} {sz N : Nat} {σ : Nat → Nat} {rs : Nat → Rw} {Q : Option Value → mH → Prop} (hb : pre.length = b) {c rn p : Nat} {ra : Nat → Nat} (hp : p < N) (hrn : rn ≤ 40) (hc : ∀ rs, (hW b pre sz σ rs N suf)[c]? = some (.inr (3, [.ref (c + 1), .int (nI rn)]))) (hc1 : ∀ rs, (hW b pre sz σ rs N suf)[c + 1]? = some (.inl (0, 40, .inl (nA ra)))) (hQ : Q none (hW b pre sz σ (uR rs p (rn, cpA ra (rs p).2 rn)) N suf)) : Rn mprog (d + 2) n_Row_copy [.ref (b + 2 + 2 * p), .ref c] (hW b pre sz σ rs N suf) Q := by
  rw [hW_row hp]
  refine r_Row_copy (g := ra) (hPre_len hb) hrn (fun x y => ?_) (fun x y => ?_) ?_
  · rw [hW_back hp]; exact hc _
  · rw [hW_back hp]; exact hc1 _
  · rw [hW_back hp]; exact hQ
def pz (N sz : Nat) : Nat := if sz = N then N else sz + 1
theorem put_ok {N sz : Nat} {σ : Nat → Nat} {rs : Nat → Rw} {r : Rw} (hS : SI N σ) (h1 : 1 ≤ sz) (h2 : sz ≤ N) : ∀ j, j + 1 < sz → uR rs (σ (sz - 1)) r (σ j) = rs (σ j) := fun j hj => uR_n (fun z => by
  have := hS.2 _ _ (by omega) (by omega) z
  omega)
theorem r_Shf_put {d b : Nat} {pre suf : mH} {sz N : Nat} {σ : Nat → Nat} {rs : Nat → Rw} {Q : Option Value → mH → Prop} (hb : pre.length = b) {c rn : Nat} {ra : Nat → Nat} (hN1 : 1 ≤ N) (hN : N ≤ 6) (hS : SI N σ) (hz : sz ≤ N) (hrn : rn ≤ 40) (hc : ∀ sz σ rs, (hW b pre sz σ rs N suf)[c]? = some (.inr (3, [.ref (c + 1), .int (nI rn)]))) (hc1 : ∀ sz σ rs, (hW b pre sz σ rs N suf)[c + 1]? = some (.inl (0, 40, .inl (nA ra)))) (hQ : ∀ σ' rs', SI N σ' → (∀ j, j + 1 < pz N sz → rs' (σ' j) = rs (σ (if sz = N then j + 1 else j))) → EqR (rs' (σ' (pz N sz - 1))) (rn, ra) → Q none (hW b pre (pz N sz) σ' rs' N suf)) : Rn mprog (d + 3) n_Shf_put [.ref b, .ref c] (hW b pre sz σ rs N suf) Q := by
  refine Rn.in rfl rfl rfl ?_
  show WP _ _ _ _ 0 [.ref b, .ref c, .long 0] [] (hW b pre sz σ rs N suf)
  refine wq_aload_n rfl rfl ?_
  refine wq_getfield (v := .int (nI sz)) rfl (hW_o hb) rfl ?_
  refine wq_aload_n rfl rfl ?_
  refine wq_getfield (v := .ref (b + 1)) rfl (hW_o hb) rfl ?_
  refine wq_alen (v := nI N) rfl (hW_a hb) rfl rfl ?_
  refine wn_ic_lt rfl (by omega) (by omega) (fun c9 => ?_) (fun c9 => ?_)
  · skip
    refine wq_aload_n rfl rfl ?_
    refine wq_dup rfl rfl ?_
    refine wq_getfield (v := .int (nI sz)) rfl (hW_o hb) rfl ?_
    refine wq_iconst (v := nI 1) rfl (by decide) ?_
    refine wn_iadd rfl ?_
    refine wq_putfield (h' := hW b pre (sz + 1) σ rs N suf) rfl (hW_o hb) rfl (hW_s hb) ?_
    refine wq_aload_n rfl rfl ?_
    refine wq_virt (b := b) (a := []) (rest := []) rfl rfl rfl rfl rfl (hW_o hb) ?_
    refine r_Shf_last hb hN (by omega) (by omega) ?_
    show WP _ _ _ _ 30 [.ref b, .ref c, .long 0] [.ref (b + 2 + 2 * σ ((sz + 1) - 1))] (hW b pre (sz + 1) σ rs N suf)
    refine wq_astore_n (lv' := [.ref b, .ref c, .ref (b + 2 + 2 * σ ((sz + 1) - 1))]) rfl rfl rfl ?_
    refine wq_aload_n rfl rfl ?_
    refine wq_ifnull rfl ?_
    refine wq_aload_n rfl rfl ?_
    refine wq_aload_n rfl rfl ?_
    refine wq_virt (b := b + 2 + 2 * σ ((sz + 1) - 1)) (a := [.ref c]) (rest := []) rfl rfl rfl rfl rfl (hW_get hb (by first | omega | exact hS1.1 _ (by omega) | exact hS.1 _ (by omega))) ?_
    refine r_hW_copy hb (hS.1 _ (by omega)) hrn (fun _ => hc _ _ _) (fun _ => hc1 _ _ _) ?_
    show WP _ _ _ _ 40 [.ref b, .ref c, .ref (b + 2 + 2 * σ ((sz + 1) - 1))] [] (hW b pre (sz + 1) σ (uR rs (σ ((sz + 1) - 1)) (rn, cpA ra (rs (σ ((sz + 1) - 1))).2 rn)) N suf)
    refine wq_vret rfl rfl ?_
    have e : sz ≠ N := by omega
    have ep : pz N sz = sz + 1 := by unfold pz; rw [if_neg e]
    rw [ep] at hQ
    refine hQ _ _ hS (fun j hj => ?_) ?_
    · rw [put_ok hS (by omega) (by omega) j hj, if_neg e]
    · rw [uR_s]; exact ⟨rfl, fun i hi => if_pos hi⟩
  · skip
    refine wq_aload_n rfl rfl ?_
    refine wq_virt (b := b) (a := []) (rest := []) rfl rfl rfl rfl rfl (hW_o hb) ?_
    refine r_Shf_lose hb hN1 hN hS ?_
    intro σ1 hs1 hs2
    have hS1 := SI_rot hS hN1 hs1 hs2
    show WP _ _ _ _ 16 [.ref b, .ref c, .long 0] [] (hW b pre (N - 1) σ1 rs N suf)
    refine wq_aload_n rfl rfl ?_
    refine wq_dup rfl rfl ?_
    refine wq_getfield (v := .int (nI (N - 1))) rfl (hW_o hb) rfl ?_
    refine wq_iconst (v := nI 1) rfl (by decide) ?_
    refine wn_iadd rfl ?_
    refine wq_putfield (h' := hW b pre ((N - 1) + 1) σ1 rs N suf) rfl (hW_o hb) rfl (hW_s hb) ?_
    refine wq_aload_n rfl rfl ?_
    refine wq_virt (b := b) (a := []) (rest := []) rfl rfl rfl rfl rfl (hW_o hb) ?_
    refine r_Shf_last hb hN (by omega) (by omega) ?_
    show WP _ _ _ _ 30 [.ref b, .ref c, .long 0] [.ref (b + 2 + 2 * σ1 (((N - 1) + 1) - 1))] (hW b pre ((N - 1) + 1) σ1 rs N suf)
    refine wq_astore_n (lv' := [.ref b, .ref c, .ref (b + 2 + 2 * σ1 (((N - 1) + 1) - 1))]) rfl rfl rfl ?_
    refine wq_aload_n rfl rfl ?_
    refine wq_ifnull rfl ?_
    refine wq_aload_n rfl rfl ?_
    refine wq_aload_n rfl rfl ?_
    refine wq_virt (b := b + 2 + 2 * σ1 (((N - 1) + 1) - 1)) (a := [.ref c]) (rest := []) rfl rfl rfl rfl rfl (hW_get hb (by first | omega | exact hS1.1 _ (by omega) | exact hS.1 _ (by omega))) ?_
    refine r_hW_copy hb (hS1.1 _ (by omega)) hrn (fun _ => hc _ _ _) (fun _ => hc1 _ _ _) ?_
    show WP _ _ _ _ 40 [.ref b, .ref c, .ref (b + 2 + 2 * σ1 (((N - 1) + 1) - 1))] [] (hW b pre ((N - 1) + 1) σ1 (uR rs (σ1 (((N - 1) + 1) - 1)) (rn, cpA ra (rs (σ1 (((N - 1) + 1) - 1))).2 rn)) N suf)
    refine wq_vret rfl rfl ?_
    have e : sz = N := by omega
    have ep : pz N sz = N - 1 + 1 := by unfold pz; rw [if_pos e]; omega
    rw [ep] at hQ
    refine hQ _ _ hS1 (fun j hj => ?_) ?_
    · rw [put_ok hS1 (by omega) (by omega) j hj, if_pos e, hs1 j (by omega)]
    · rw [uR_s]; exact ⟨rfl, fun i hi => if_pos hi⟩
