/-! fill, Net -/
def fz (v : Nat) (g : Nat → Nat) (i : Nat) : Nat → Nat := fun j => if j < i then v else g j
theorem fz_0 (v : Nat) (g : Nat → Nat) : fz v g 0 = g := by
  funext j
  unfold fz
  rw [if_neg (Nat.not_lt_zero j)]
theorem fz_s (v : Nat) (g : Nat → Nat) (i : Nat) : uN' (fz v g i) i v = fz v g (i + 1) := by
  funext j
  unfold uN' fz
  by_cases h : j = i
  · rw [if_pos h, if_pos (by omega)]
  · rw [if_neg h]
    by_cases h2 : j < i
    · rw [if_pos h2, if_pos (by omega)]
    · rw [if_neg h2, if_neg (by omega)]
theorem set_get {h : mH} {a : Nat} {e : va_E} (hl : a < h.length) : (h.set a e)[a]? = some e := by simp [hl]
theorem set_same {h : mH} {a : Nat} {e : va_E} (ho : h[a]? = some e) : h.set a e = h := by
  apply List.ext_getElem?
  intro i
  rw [List.getElem?_set]
  by_cases hi : a = i
  · subst hi
    have hl := (List.getElem?_eq_some_iff.mp ho).1
    rw [if_pos rfl, if_pos hl, ho]
  · rw [if_neg hi]
theorem l_fill {d a N v : Nat} {g : Nat → Nat} {h : mH} {Q : Option Value → mH → Prop} (hl : a < h.length) (hN : N < 2 ^ 31) (hQ : Q none (h.set a (.inl (0, N, .inl (nA (fz v g N)))))) : ∀ n i, i + n = N → WP (Rn mprog d) k_Arr_fill none Q 5 [.ref a, .int (nI v), .int (nI i), .int (nI N)] [] (h.set a (.inl (0, N, .inl (nA (fz v g i))))) := by
  intro n
  induction n with
  | zero =>
    intro i hi
    have e : i = N := by omega
    subst e
    refine wq_iload_n rfl rfl ?_
    refine wq_iload_n rfl rfl ?_
    refine wn_ic_ge rfl hN hN (fun _ => ?_) (fun c => absurd c (by omega))
    exact wq_vret rfl rfl hQ
  | succ n ih =>
    intro i hi
    refine wq_iload_n rfl rfl ?_
    refine wq_iload_n rfl rfl ?_
    refine wn_ic_ge rfl (by omega) hN (fun c => absurd c (by omega)) (fun _ => ?_)
    refine wq_aload_n rfl rfl ?_
    refine wq_iload_n rfl rfl ?_
    refine wq_iload_n rfl rfl ?_
    refine wn_iastore (g := fz v g i) (h' := h.set a (.inl (0, N, .inl (nA (fz v g (i + 1)))))) rfl (set_get hl) (by omega) hN (by rw [List.set_set, fz_s]) ?_
    refine wn_inc (lv' := [.ref a, .int (nI v), .int (nI (i + 1)), .int (nI N)]) rfl rfl rfl ?_
    refine wq_goto rfl ?_
    exact ih (i + 1) (by omega)
theorem r_fill {d a N v : Nat} {g : Nat → Nat} {h : mH} {Q : Option Value → mH → Prop} (ho : h[a]? = some (.inl (0, N, .inl (nA g)))) (hN : N < 2 ^ 31) (hQ : Q none (h.set a (.inl (0, N, .inl (nA (fz v g N)))))) : Rn mprog (d + 1) n_Arr_fill [.ref a, .int (nI v)] h Q := by
  refine Rn.in rfl rfl rfl ?_
  show WP _ _ _ _ 0 [.ref a, .int (nI v), .long 0, .long 0] [] h
  refine wq_iconst (v := nI 0) rfl (by decide) ?_
  refine wq_istore_n (lv' := [.ref a, .int (nI v), .int (nI 0), .long 0]) rfl rfl rfl ?_
  refine wq_aload_n rfl rfl ?_
  refine wq_alen (v := nI N) rfl ho rfl rfl ?_
  refine wq_istore_n (lv' := [.ref a, .int (nI v), .int (nI 0), .int (nI N)]) rfl rfl rfl ?_
  have q := l_fill (d := d) (g := g) (List.getElem?_eq_some_iff.mp ho).1 hN hQ N 0 (by omega)
  rw [fz_0, set_same ho] at q
  exact q
theorem r_Net_points {d b : Nat} {pre suf : mH} {pts : Nat} {edg : Nat} {nr : Nat → Nat} {Q : Option Value → mH → Prop} (hb : pre.length = b) (hQ : Q (some (.int (nI pts))) (nW b pre pts edg nr suf)) : Rn mprog (d + 1) n_Net_points [.ref b] (nW b pre pts edg nr suf) Q := by
  refine Rn.in rfl rfl rfl ?_
  show WP _ _ _ _ 0 [.ref b] [] (nW b pre pts edg nr suf)
  refine wq_aload_n rfl rfl ?_
  refine wq_getfield (v := .int (nI pts)) rfl (nW_o0 hb) rfl ?_
  refine wq_iret rfl trivial ?_
  exact hQ
theorem r_Net_edges {d b : Nat} {pre suf : mH} {pts : Nat} {edg : Nat} {nr : Nat → Nat} {Q : Option Value → mH → Prop} (hb : pre.length = b) (hQ : Q (some (.int (nI edg))) (nW b pre pts edg nr suf)) : Rn mprog (d + 1) n_Net_edges [.ref b] (nW b pre pts edg nr suf) Q := by
  refine Rn.in rfl rfl rfl ?_
  show WP _ _ _ _ 0 [.ref b] [] (nW b pre pts edg nr suf)
  refine wq_aload_n rfl rfl ?_
  refine wq_getfield (v := .int (nI edg)) rfl (nW_o0 hb) rfl ?_
  refine wq_iret rfl trivial ?_
  exact hQ
theorem r_Net_nearOf {d b : Nat} {pre suf : mH} {pts : Nat} {edg : Nat} {nr : Nat → Nat} {Q : Option Value → mH → Prop} (hb : pre.length = b) {p : Nat} (hp : p < 9) (hQ : Q (some (.int (nI (nr p)))) (nW b pre pts edg nr suf)) : Rn mprog (d + 2) n_Net_nearOf [.ref b, .int (nI p)] (nW b pre pts edg nr suf) Q := by
  refine Rn.in rfl rfl rfl ?_
  show WP _ _ _ _ 0 [.ref b, .int (nI p)] [] (nW b pre pts edg nr suf)
  refine wq_iload_n rfl rfl ?_
  refine wq_stat (a := [.int (nI p)]) (rest := []) rfl rfl rfl rfl rfl ?_
  refine r_Z_isPt (by omega) ?_
  show WP _ _ _ _ 4 [.ref b, .int (nI p)] [.int (nI 1)] (nW b pre pts edg nr suf)
  refine wq_if_eq rfl (fun c => absurd c (by decide)) (fun _ => ?_)
  refine wq_aload_n rfl rfl ?_
  refine wq_getfield (v := .ref (b + 1)) rfl (nW_o0 hb) rfl ?_
  refine wq_iload_n rfl rfl ?_
  refine wn_iaload (g := nr) rfl (nW_a1 hb) (by omega) (by decide) ?_
  refine wq_goto rfl ?_
  refine wq_iret rfl trivial ?_
  exact hQ
theorem r_Net_has {d b : Nat} {pre suf : mH} {pts : Nat} {edg : Nat} {nr : Nat → Nat} {Q : Option Value → mH → Prop} (hb : pre.length = b) {p : Nat} (hp : p < 9) (hpt : pts < 512) (kt : pts.testBit p = true → Q (some (.int (nI 1))) (nW b pre pts edg nr suf)) (kf : pts.testBit p = false → Q (some (.int (nI 0))) (nW b pre pts edg nr suf)) : Rn mprog (d + 2) n_Net_has [.ref b, .int (nI p)] (nW b pre pts edg nr suf) Q := by
  refine Rn.in rfl rfl rfl ?_
  show WP _ _ _ _ 0 [.ref b, .int (nI p)] [] (nW b pre pts edg nr suf)
  refine wq_iload_n rfl rfl ?_
  refine wq_stat (a := [.int (nI p)]) (rest := []) rfl rfl rfl rfl rfl ?_
  refine r_Z_isPt (by omega) ?_
  show WP _ _ _ _ 4 [.ref b, .int (nI p)] [.int (nI 1)] (nW b pre pts edg nr suf)
  refine wq_if_eq rfl (fun c => absurd c (by decide)) (fun _ => ?_)
  refine wq_aload_n rfl rfl ?_
  refine wq_getfield (v := .int (nI pts)) rfl (nW_o0 hb) rfl ?_
  refine wq_iload_n rfl rfl ?_
  refine wq_stat (a := [.int (nI pts), .int (nI p)]) (rest := []) rfl rfl rfl rfl rfl ?_
  refine r_Z_isIn (by omega) (by omega) (fun c12 => ?_) (fun c12 => ?_)
  · skip
    show WP _ _ _ _ 15 [.ref b, .int (nI p)] [.int (nI 1)] (nW b pre pts edg nr suf)
    refine wq_if_eq rfl (fun c => absurd c (by decide)) (fun _ => ?_)
    refine wq_iconst (v := nI 1) rfl (by decide) ?_
    refine wq_goto rfl ?_
    refine wq_iret rfl (by first | exact Or.inl rfl | exact Or.inr rfl) ?_
    exact kt c12
  · skip
    show WP _ _ _ _ 15 [.ref b, .int (nI p)] [.int (nI 0)] (nW b pre pts edg nr suf)
    refine wq_if_eq rfl (fun _ => ?_) (fun c => absurd c (by decide))
    refine wq_iconst (v := nI 0) rfl (by decide) ?_
    refine wq_iret rfl (by first | exact Or.inl rfl | exact Or.inr rfl) ?_
    exact kf c12
theorem r_Net_joined {d b : Nat} {pre suf : mH} {pts : Nat} {edg : Nat} {nr : Nat → Nat} {Q : Option Value → mH → Prop} (hb : pre.length = b) {p q : Nat} (hp : p < 9) (hq : q < 9) (hnr : ∀ p, p < 9 → nr p < 512) (kt : (nr p).testBit q = true → Q (some (.int (nI 1))) (nW b pre pts edg nr suf)) (kf : (nr p).testBit q = false → Q (some (.int (nI 0))) (nW b pre pts edg nr suf)) : Rn mprog (d + 3) n_Net_joined [.ref b, .int (nI p), .int (nI q)] (nW b pre pts edg nr suf) Q := by
  refine Rn.in rfl rfl rfl ?_
  show WP _ _ _ _ 0 [.ref b, .int (nI p), .int (nI q)] [] (nW b pre pts edg nr suf)
  have hnp := hnr p hp
  refine wq_iload_n rfl rfl ?_
  refine wq_stat (a := [.int (nI q)]) (rest := []) rfl rfl rfl rfl rfl ?_
  refine r_Z_isPt (by omega) ?_
  show WP _ _ _ _ 4 [.ref b, .int (nI p), .int (nI q)] [.int (nI 1)] (nW b pre pts edg nr suf)
  refine wq_if_eq rfl (fun c => absurd c (by decide)) (fun _ => ?_)
  refine wq_aload_n rfl rfl ?_
  refine wq_iload_n rfl rfl ?_
  refine wq_virt (b := b) (a := [.int (nI p)]) (rest := []) rfl rfl rfl rfl rfl (nW_o0 hb) ?_
  refine r_Net_nearOf hb (by omega) ?_
  show WP _ _ _ _ 12 [.ref b, .int (nI p), .int (nI q)] [.int (nI (nr p))] (nW b pre pts edg nr suf)
  refine wq_iload_n rfl rfl ?_
  refine wq_stat (a := [.int (nI (nr p)), .int (nI q)]) (rest := []) rfl rfl rfl rfl rfl ?_
  refine r_Z_isIn (by omega) (by omega) (fun c13 => ?_) (fun c13 => ?_)
  · skip
    show WP _ _ _ _ 16 [.ref b, .int (nI p), .int (nI q)] [.int (nI 1)] (nW b pre pts edg nr suf)
    refine wq_if_eq rfl (fun c => absurd c (by decide)) (fun _ => ?_)
    refine wq_iconst (v := nI 1) rfl (by decide) ?_
    refine wq_goto rfl ?_
    refine wq_iret rfl (by first | exact Or.inl rfl | exact Or.inr rfl) ?_
    exact kt c13
  · skip
    show WP _ _ _ _ 16 [.ref b, .int (nI p), .int (nI q)] [.int (nI 0)] (nW b pre pts edg nr suf)
    refine wq_if_eq rfl (fun _ => ?_) (fun c => absurd c (by decide))
    refine wq_iconst (v := nI 0) rfl (by decide) ?_
    refine wq_iret rfl (by first | exact Or.inl rfl | exact Or.inr rfl) ?_
    exact kf c13
theorem r_Net_canDo {d b : Nat} {pre suf : mH} {pts : Nat} {edg : Nat} {nr : Nat → Nat} {Q : Option Value → mH → Prop} (hb : pre.length = b) {ac : Nat} (hac : ac < 1024) (hA : ac >>> 4 &&& 15 < 9) (hB : ac &&& 15 < 9) (hpt : pts < 512) (hnr : ∀ p, p < 9 → nr p < 512) (kt : mayB pts nr (ac >>> 8) (ac >>> 4 &&& 15) (ac &&& 15) = true → Q (some (.int (nI 1))) (nW b pre pts edg nr suf)) (kf : mayB pts nr (ac >>> 8) (ac >>> 4 &&& 15) (ac &&& 15) = false → Q (some (.int (nI 0))) (nW b pre pts edg nr suf)) : Rn mprog (d + 4) n_Net_canDo [.ref b, .int (nI ac)] (nW b pre pts edg nr suf) Q := by
  refine Rn.in rfl rfl rfl ?_
  show WP _ _ _ _ 0 [.ref b, .int (nI ac), .long 0, .long 0] [] (nW b pre pts edg nr suf)
  refine wq_iload_n rfl rfl ?_
  refine wq_stat (a := [.int (nI ac)]) (rest := []) rfl rfl rfl rfl rfl ?_
  refine r_Z_lowOf (by omega) ?_
  show WP _ _ _ _ 4 [.ref b, .int (nI ac), .long 0, .long 0] [.int (nI (ac >>> 4 &&& 15))] (nW b pre pts edg nr suf)
  refine wq_istore_n (lv' := [.ref b, .int (nI ac), .int (nI (ac >>> 4 &&& 15)), .long 0]) rfl rfl rfl ?_
  refine wq_iload_n rfl rfl ?_
  refine wq_stat (a := [.int (nI ac)]) (rest := []) rfl rfl rfl rfl rfl ?_
  refine r_Z_highOf ?_
  show WP _ _ _ _ 9 [.ref b, .int (nI ac), .int (nI (ac >>> 4 &&& 15)), .long 0] [.int (nI (ac &&& 15))] (nW b pre pts edg nr suf)
  refine wq_istore_n (lv' := [.ref b, .int (nI ac), .int (nI (ac >>> 4 &&& 15)), .int (nI (ac &&& 15))]) rfl rfl rfl ?_
  refine wq_iload_n rfl rfl ?_
  refine wq_stat (a := [.int (nI (ac >>> 4 &&& 15))]) (rest := []) rfl rfl rfl rfl rfl ?_
  refine r_Z_isPt (by omega) ?_
  show WP _ _ _ _ 14 [.ref b, .int (nI ac), .int (nI (ac >>> 4 &&& 15)), .int (nI (ac &&& 15))] [.int (nI 1)] (nW b pre pts edg nr suf)
  refine wq_if_eq rfl (fun c => absurd c (by decide)) (fun _ => ?_)
  refine wq_iload_n rfl rfl ?_
  refine wq_stat (a := [.int (nI (ac &&& 15))]) (rest := []) rfl rfl rfl rfl rfl ?_
  refine r_Z_isPt (by omega) ?_
  show WP _ _ _ _ 21 [.ref b, .int (nI ac), .int (nI (ac >>> 4 &&& 15)), .int (nI (ac &&& 15))] [.int (nI 1)] (nW b pre pts edg nr suf)
  refine wq_if_ne rfl (fun _ => ?_) (fun c => absurd c (by decide))
  have hk4 : ac >>> 8 = 0 ∨ ac >>> 8 = 1 ∨ ac >>> 8 = 2 ∨ ac >>> 8 = 3 := by
    have : ac >>> 8 < 4 := by
      rw [Nat.shiftRight_eq_div_pow]
      omega
    omega
  refine wq_iload_n rfl rfl ?_
  refine wq_stat (a := [.int (nI ac)]) (rest := []) rfl rfl rfl rfl rfl ?_
  refine r_Z_kindOf (by omega) ?_
  show WP _ _ _ _ 30 [.ref b, .int (nI ac), .int (nI (ac >>> 4 &&& 15)), .int (nI (ac &&& 15))] [.int (nI (ac >>> 8))] (nW b pre pts edg nr suf)
  rcases hk4 with e30 | e30 | e30 | e30
  · refine wq_tsw (t := 60) rfl (by rw [e30]; decide) ?_
    refine wq_aload_n rfl rfl ?_
    refine wq_iload_n rfl rfl ?_
    refine wq_virt (b := b) (a := [.int (nI (ac >>> 4 &&& 15))]) (rest := []) rfl rfl rfl rfl rfl (nW_o0 hb) ?_
    refine r_Net_has hb (by omega) (by omega) (fun c62 => ?_) (fun c62 => ?_)
    · skip
      show WP _ _ _ _ 65 [.ref b, .int (nI ac), .int (nI (ac >>> 4 &&& 15)), .int (nI (ac &&& 15))] [.int (nI 1)] (nW b pre pts edg nr suf)
      refine wq_if_ne rfl (fun _ => ?_) (fun c => absurd c (by decide))
      refine wq_iconst (v := nI 0) rfl (by decide) ?_
      refine wq_iret rfl (by first | exact Or.inl rfl | exact Or.inr rfl) ?_
      exact kf (by simp [mayB, e30, c62])
    · skip
      show WP _ _ _ _ 65 [.ref b, .int (nI ac), .int (nI (ac >>> 4 &&& 15)), .int (nI (ac &&& 15))] [.int (nI 0)] (nW b pre pts edg nr suf)
      refine wq_if_ne rfl (fun c => absurd c (by decide)) (fun _ => ?_)
      refine wq_iconst (v := nI 1) rfl (by decide) ?_
      refine wq_goto rfl ?_
      refine wq_iret rfl (by first | exact Or.inl rfl | exact Or.inr rfl) ?_
      exact kt (by simp [mayB, e30, c62])
  · refine wq_tsw (t := 74) rfl (by rw [e30]; decide) ?_
    refine wq_aload_n rfl rfl ?_
    refine wq_iload_n rfl rfl ?_
    refine wq_virt (b := b) (a := [.int (nI (ac >>> 4 &&& 15))]) (rest := []) rfl rfl rfl rfl rfl (nW_o0 hb) ?_
    refine r_Net_has hb (by omega) (by omega) (fun c76 => ?_) (fun c76 => ?_)
    · skip
      show WP _ _ _ _ 79 [.ref b, .int (nI ac), .int (nI (ac >>> 4 &&& 15)), .int (nI (ac &&& 15))] [.int (nI 1)] (nW b pre pts edg nr suf)
      refine wq_if_eq rfl (fun c => absurd c (by decide)) (fun _ => ?_)
      refine wq_aload_n rfl rfl ?_
      refine wq_iload_n rfl rfl ?_
      have hnA := hnr _ hA
      refine wq_virt (b := b) (a := [.int (nI (ac >>> 4 &&& 15))]) (rest := []) rfl rfl rfl rfl rfl (nW_o0 hb) ?_
      refine r_Net_nearOf hb (by omega) ?_
      show WP _ _ _ _ 87 [.ref b, .int (nI ac), .int (nI (ac >>> 4 &&& 15)), .int (nI (ac &&& 15))] [.int (nI (nr (ac >>> 4 &&& 15)))] (nW b pre pts edg nr suf)
      refine wn_if_ne rfl (by omega) (fun c87 => ?_) (fun c87 => ?_)
      · skip
        refine wq_iconst (v := nI 0) rfl (by decide) ?_
        refine wq_iret rfl (by first | exact Or.inl rfl | exact Or.inr rfl) ?_
        exact kf (by simp [mayB, e30, c76, c87])
      · skip
        refine wq_iconst (v := nI 1) rfl (by decide) ?_
        refine wq_goto rfl ?_
        refine wq_iret rfl (by first | exact Or.inl rfl | exact Or.inr rfl) ?_
        exact kt (by simp [mayB, e30, c76, c87])
    · skip
      show WP _ _ _ _ 79 [.ref b, .int (nI ac), .int (nI (ac >>> 4 &&& 15)), .int (nI (ac &&& 15))] [.int (nI 0)] (nW b pre pts edg nr suf)
      refine wq_if_eq rfl (fun _ => ?_) (fun c => absurd c (by decide))
      refine wq_iconst (v := nI 0) rfl (by decide) ?_
      refine wq_iret rfl (by first | exact Or.inl rfl | exact Or.inr rfl) ?_
      exact kf (by simp [mayB, e30, c76])
  · refine wq_tsw (t := 96) rfl (by rw [e30]; decide) ?_
    refine wq_iload_n rfl rfl ?_
    refine wq_iload_n rfl rfl ?_
    refine wn_ic_eq rfl (by omega) (by omega) (fun c98 => ?_) (fun c98 => ?_)
    · skip
      refine wq_iconst (v := nI 0) rfl (by decide) ?_
      refine wq_iret rfl (by first | exact Or.inl rfl | exact Or.inr rfl) ?_
      exact kf (by simp [mayB, e30, c98])
    · skip
      refine wq_aload_n rfl rfl ?_
      refine wq_iload_n rfl rfl ?_
      refine wq_virt (b := b) (a := [.int (nI (ac >>> 4 &&& 15))]) (rest := []) rfl rfl rfl rfl rfl (nW_o0 hb) ?_
      refine r_Net_has hb (by omega) (by omega) (fun c103 => ?_) (fun c103 => ?_)
      · skip
        show WP _ _ _ _ 106 [.ref b, .int (nI ac), .int (nI (ac >>> 4 &&& 15)), .int (nI (ac &&& 15))] [.int (nI 1)] (nW b pre pts edg nr suf)
        refine wq_if_eq rfl (fun c => absurd c (by decide)) (fun _ => ?_)
        refine wq_aload_n rfl rfl ?_
        refine wq_iload_n rfl rfl ?_
        refine wq_virt (b := b) (a := [.int (nI (ac &&& 15))]) (rest := []) rfl rfl rfl rfl rfl (nW_o0 hb) ?_
        refine r_Net_has hb (by omega) (by omega) (fun c111 => ?_) (fun c111 => ?_)
        · skip
          show WP _ _ _ _ 114 [.ref b, .int (nI ac), .int (nI (ac >>> 4 &&& 15)), .int (nI (ac &&& 15))] [.int (nI 1)] (nW b pre pts edg nr suf)
          refine wq_if_eq rfl (fun c => absurd c (by decide)) (fun _ => ?_)
          refine wq_aload_n rfl rfl ?_
          refine wq_iload_n rfl rfl ?_
          refine wq_iload_n rfl rfl ?_
          refine wq_virt (b := b) (a := [.int (nI (ac >>> 4 &&& 15)), .int (nI (ac &&& 15))]) (rest := []) rfl rfl rfl rfl rfl (nW_o0 hb) ?_
          refine r_Net_joined hb (by omega) (by omega) hnr (fun c120 => ?_) (fun c120 => ?_)
          · skip
            show WP _ _ _ _ 123 [.ref b, .int (nI ac), .int (nI (ac >>> 4 &&& 15)), .int (nI (ac &&& 15))] [.int (nI 1)] (nW b pre pts edg nr suf)
            refine wq_if_ne rfl (fun _ => ?_) (fun c => absurd c (by decide))
            refine wq_iconst (v := nI 0) rfl (by decide) ?_
            refine wq_iret rfl (by first | exact Or.inl rfl | exact Or.inr rfl) ?_
            exact kf (by simp [mayB, e30, c98, c103, c111, c120])
          · skip
            show WP _ _ _ _ 123 [.ref b, .int (nI ac), .int (nI (ac >>> 4 &&& 15)), .int (nI (ac &&& 15))] [.int (nI 0)] (nW b pre pts edg nr suf)
            refine wq_if_ne rfl (fun c => absurd c (by decide)) (fun _ => ?_)
            refine wq_iconst (v := nI 1) rfl (by decide) ?_
            refine wq_goto rfl ?_
            refine wq_iret rfl (by first | exact Or.inl rfl | exact Or.inr rfl) ?_
            exact kt (by simp [mayB, e30, c98, c103, c111, c120])
        · skip
          show WP _ _ _ _ 114 [.ref b, .int (nI ac), .int (nI (ac >>> 4 &&& 15)), .int (nI (ac &&& 15))] [.int (nI 0)] (nW b pre pts edg nr suf)
          refine wq_if_eq rfl (fun _ => ?_) (fun c => absurd c (by decide))
          refine wq_iconst (v := nI 0) rfl (by decide) ?_
          refine wq_iret rfl (by first | exact Or.inl rfl | exact Or.inr rfl) ?_
          exact kf (by simp [mayB, e30, c98, c103, c111])
      · skip
        show WP _ _ _ _ 106 [.ref b, .int (nI ac), .int (nI (ac >>> 4 &&& 15)), .int (nI (ac &&& 15))] [.int (nI 0)] (nW b pre pts edg nr suf)
        refine wq_if_eq rfl (fun _ => ?_) (fun c => absurd c (by decide))
        refine wq_iconst (v := nI 0) rfl (by decide) ?_
        refine wq_iret rfl (by first | exact Or.inl rfl | exact Or.inr rfl) ?_
        exact kf (by simp [mayB, e30, c98, c103])
  · refine wq_tsw (t := 132) rfl (by rw [e30]; decide) ?_
    refine wq_aload_n rfl rfl ?_
    refine wq_iload_n rfl rfl ?_
    refine wq_iload_n rfl rfl ?_
    refine wq_virt (b := b) (a := [.int (nI (ac >>> 4 &&& 15)), .int (nI (ac &&& 15))]) (rest := []) rfl rfl rfl rfl rfl (nW_o0 hb) ?_
    refine r_Net_joined hb (by omega) (by omega) hnr (fun c135 => ?_) (fun c135 => ?_)
    · skip
      show WP _ _ _ _ 138 [.ref b, .int (nI ac), .int (nI (ac >>> 4 &&& 15)), .int (nI (ac &&& 15))] [.int (nI 1)] (nW b pre pts edg nr suf)
      refine wq_iret rfl (by first | exact Or.inl rfl | exact Or.inr rfl) ?_
      exact kt (by simp [mayB, e30, c135])
    · skip
      show WP _ _ _ _ 138 [.ref b, .int (nI ac), .int (nI (ac >>> 4 &&& 15)), .int (nI (ac &&& 15))] [.int (nI 0)] (nW b pre pts edg nr suf)
      refine wq_iret rfl (by first | exact Or.inl rfl | exact Or.inr rfl) ?_
      exact kf (by simp [mayB, e30, c135])
theorem r_Net_canDo_no {d b : Nat} {pre suf : mH} {pts : Nat} {edg : Nat} {nr : Nat → Nat} {Q : Option Value → mH → Prop} (hb : pre.length = b) (hQ : Q (some (.int (nI 0))) (nW b pre pts edg nr suf)) : Rn mprog (d + 4) n_Net_canDo [.ref b, .int ((-1))] (nW b pre pts edg nr suf) Q := by
  refine Rn.in rfl rfl rfl ?_
  show WP _ _ _ _ 0 [.ref b, .int ((-1)), .long 0, .long 0] [] (nW b pre pts edg nr suf)
  refine wq_iload_n rfl rfl ?_
  refine wq_stat (a := [.int ((-1))]) (rest := []) rfl rfl rfl rfl rfl ?_
  refine r_Z_lowOf_no ?_
  show WP _ _ _ _ 4 [.ref b, .int ((-1)), .long 0, .long 0] [.int (nI 15)] (nW b pre pts edg nr suf)
  refine wq_istore_n (lv' := [.ref b, .int ((-1)), .int (nI 15), .long 0]) rfl rfl rfl ?_
  refine wq_iload_n rfl rfl ?_
  refine wq_stat (a := [.int ((-1))]) (rest := []) rfl rfl rfl rfl rfl ?_
  refine r_Z_highOf_no ?_
  show WP _ _ _ _ 9 [.ref b, .int ((-1)), .int (nI 15), .long 0] [.int (nI 15)] (nW b pre pts edg nr suf)
  refine wq_istore_n (lv' := [.ref b, .int ((-1)), .int (nI 15), .int (nI 15)]) rfl rfl rfl ?_
  refine wq_iload_n rfl rfl ?_
  refine wq_stat (a := [.int (nI 15)]) (rest := []) rfl rfl rfl rfl rfl ?_
  refine r_Z_isPoint (fun c => absurd c (by decide)) (fun _ => ?_)
  show WP _ _ _ _ 14 [.ref b, .int ((-1)), .int (nI 15), .int (nI 15)] [.int (nI 0)] (nW b pre pts edg nr suf)
  refine wq_if_eq rfl (fun _ => ?_) (fun c => absurd c (by decide))
  refine wq_iconst (v := nI 0) rfl (by decide) ?_
  refine wq_iret rfl (by first | exact Or.inl rfl | exact Or.inr rfl) ?_
  exact hQ
def nrX (nr : Nat → Nat) (A B : Nat) : Nat → Nat := uN' (uN' nr A (nr A ^^^ 1 <<< B)) B (uN' nr A (nr A ^^^ 1 <<< B) B ^^^ 1 <<< A)
theorem nI_dec {a : Nat} (h : 0 < a) : nI a + (-1) = nI (a - 1) := by
  obtain ⟨m, rfl⟩ : ∃ m, a = m + 1 := ⟨a - 1, by omega⟩
  exact pk_m1 m
theorem r_Net_change {d b : Nat} {pre suf : mH} {pts : Nat} {edg : Nat} {nr : Nat → Nat} {Q : Option Value → mH → Prop} (hb : pre.length = b) {ac : Nat} (hac : ac < 1024) (hA : ac >>> 4 &&& 15 < 9) (hB : ac &&& 15 < 9) (hnr : ∀ p, p < 9 → nr p < 512) (k0 : ¬ (ac >>> 8 = 2 ∨ ac >>> 8 = 3) → Q none (nW b pre (pts ^^^ 1 <<< (ac >>> 4 &&& 15)) edg nr suf)) (k1 : (nr (ac >>> 4 &&& 15)).testBit (ac &&& 15) = true → Q none (nW b pre pts (edg - 1) (nrX nr (ac >>> 4 &&& 15) (ac &&& 15)) suf)) (k2 : (nr (ac >>> 4 &&& 15)).testBit (ac &&& 15) = false → Q none (nW b pre pts (edg + 1) (nrX nr (ac >>> 4 &&& 15) (ac &&& 15)) suf)) (he : (nr (ac >>> 4 &&& 15)).testBit (ac &&& 15) = true → 0 < edg) : Rn mprog (d + 4) n_Net_change [.ref b, .int (nI ac)] (nW b pre pts edg nr suf) Q := by
  refine Rn.in rfl rfl rfl ?_
  show WP _ _ _ _ 0 [.ref b, .int (nI ac), .long 0, .long 0] [] (nW b pre pts edg nr suf)
  refine wq_iload_n rfl rfl ?_
  refine wq_stat (a := [.int (nI ac)]) (rest := []) rfl rfl rfl rfl rfl ?_
  refine r_Z_lowOf (by omega) ?_
  show WP _ _ _ _ 4 [.ref b, .int (nI ac), .long 0, .long 0] [.int (nI (ac >>> 4 &&& 15))] (nW b pre pts edg nr suf)
  refine wq_istore_n (lv' := [.ref b, .int (nI ac), .int (nI (ac >>> 4 &&& 15)), .long 0]) rfl rfl rfl ?_
  refine wq_iload_n rfl rfl ?_
  refine wq_stat (a := [.int (nI ac)]) (rest := []) rfl rfl rfl rfl rfl ?_
  refine r_Z_highOf ?_
  show WP _ _ _ _ 9 [.ref b, .int (nI ac), .int (nI (ac >>> 4 &&& 15)), .long 0] [.int (nI (ac &&& 15))] (nW b pre pts edg nr suf)
  refine wq_istore_n (lv' := [.ref b, .int (nI ac), .int (nI (ac >>> 4 &&& 15)), .int (nI (ac &&& 15))]) rfl rfl rfl ?_
  refine wq_iload_n rfl rfl ?_
  refine wq_stat (a := [.int (nI (ac >>> 4 &&& 15))]) (rest := []) rfl rfl rfl rfl rfl ?_
  refine r_Z_isPt (by omega) ?_
  show WP _ _ _ _ 14 [.ref b, .int (nI ac), .int (nI (ac >>> 4 &&& 15)), .int (nI (ac &&& 15))] [.int (nI 1)] (nW b pre pts edg nr suf)
  refine wq_if_eq rfl (fun c => absurd c (by decide)) (fun _ => ?_)
  refine wq_iload_n rfl rfl ?_
  refine wq_stat (a := [.int (nI (ac &&& 15))]) (rest := []) rfl rfl rfl rfl rfl ?_
  refine r_Z_isPt (by omega) ?_
  show WP _ _ _ _ 21 [.ref b, .int (nI ac), .int (nI (ac >>> 4 &&& 15)), .int (nI (ac &&& 15))] [.int (nI 1)] (nW b pre pts edg nr suf)
  refine wq_if_ne rfl (fun _ => ?_) (fun c => absurd c (by decide))
  have hsA := Nat.lt_trans (sh_lt (n := 9) hA) (show 2 ^ 9 < 2 ^ 32 by decide)
  have hsB := Nat.lt_trans (sh_lt (n := 9) hB) (show 2 ^ 9 < 2 ^ 32 by decide)
  refine wq_iload_n rfl rfl ?_
  refine wq_stat (a := [.int (nI ac)]) (rest := []) rfl rfl rfl rfl rfl ?_
  refine r_Z_kindOf (by omega) ?_
  show WP _ _ _ _ 29 [.ref b, .int (nI ac), .int (nI (ac >>> 4 &&& 15)), .int (nI (ac &&& 15))] [.int (nI (ac >>> 8))] (nW b pre pts edg nr suf)
  refine wq_stat (a := [.int (nI (ac >>> 8))]) (rest := []) rfl rfl rfl rfl rfl ?_
  refine r_Z_isOfEdge (fun c29 => ?_) (fun c29 => ?_)
  · skip
    show WP _ _ _ _ 32 [.ref b, .int (nI ac), .int (nI (ac >>> 4 &&& 15)), .int (nI (ac &&& 15))] [.int (nI 1)] (nW b pre pts edg nr suf)
    refine wq_if_ne rfl (fun _ => ?_) (fun c => absurd c (by decide))
    refine wq_aload_n rfl rfl ?_
    refine wq_dup rfl rfl ?_
    refine wq_getfield (v := .int (nI edg)) rfl (nW_o0 hb) rfl ?_
    refine wq_aload_n rfl rfl ?_
    refine wq_iload_n rfl rfl ?_
    refine wq_iload_n rfl rfl ?_
    refine wq_virt (b := b) (a := [.int (nI (ac >>> 4 &&& 15)), .int (nI (ac &&& 15))]) (rest := [.int (nI edg), .ref b]) rfl rfl rfl rfl rfl (nW_o0 hb) ?_
    refine r_Net_joined hb (by omega) (by omega) hnr (fun c56 => ?_) (fun c56 => ?_)
    · skip
      show WP _ _ _ _ 59 [.ref b, .int (nI ac), .int (nI (ac >>> 4 &&& 15)), .int (nI (ac &&& 15))] [.int (nI 1), .int (nI edg), .ref b] (nW b pre pts edg nr suf)
      refine wq_if_eq rfl (fun c => absurd c (by decide)) (fun _ => ?_)
      refine wq_iconst (v := (-1)) rfl (by decide) ?_
      refine wq_goto rfl ?_
      have he1 := he c56
      refine wq_iadd (v := nI (edg - 1)) rfl (nI_dec he1) ?_
      refine wq_putfield (h' := nW b pre pts (edg - 1) nr suf) rfl (nW_o0 hb) rfl (nW_s0_2 hb) ?_
      refine wq_aload_n rfl rfl ?_
      refine wq_getfield (v := .ref (b + 1)) rfl (nW_o0 hb) rfl ?_
      refine wq_iload_n rfl rfl ?_
      refine wq_dup2 rfl rfl rfl ?_
      refine wn_iaload (g := nr) rfl (nW_a1 hb) (by omega) (by decide) ?_
      refine wq_iconst (v := nI 1) rfl (by decide) ?_
      refine wq_iload_n rfl rfl ?_
      refine wn_ishl rfl (by omega) hsB ?_
      refine wn_ixor rfl ?_
      refine wn_iastore (g := nr) (h' := nW b pre pts (edg - 1) (uN' nr (ac >>> 4 &&& 15) ((nr (ac >>> 4 &&& 15)) ^^^ (1 <<< (ac &&& 15)))) suf) rfl (nW_a1 hb) (by omega) (by decide) (nW_t1 hb) ?_
      refine wq_aload_n rfl rfl ?_
      refine wq_getfield (v := .ref (b + 1)) rfl (nW_o0 hb) rfl ?_
      refine wq_iload_n rfl rfl ?_
      refine wq_dup2 rfl rfl rfl ?_
      refine wn_iaload (g := (uN' nr (ac >>> 4 &&& 15) ((nr (ac >>> 4 &&& 15)) ^^^ (1 <<< (ac &&& 15))))) rfl (nW_a1 hb) (by omega) (by decide) ?_
      refine wq_iconst (v := nI 1) rfl (by decide) ?_
      refine wq_iload_n rfl rfl ?_
      refine wn_ishl rfl (by omega) hsA ?_
      refine wn_ixor rfl ?_
      refine wn_iastore (g := (uN' nr (ac >>> 4 &&& 15) ((nr (ac >>> 4 &&& 15)) ^^^ (1 <<< (ac &&& 15))))) (h' := nW b pre pts (edg - 1) (uN' ((uN' nr (ac >>> 4 &&& 15) ((nr (ac >>> 4 &&& 15)) ^^^ (1 <<< (ac &&& 15))))) (ac &&& 15) ((((uN' nr (ac >>> 4 &&& 15) ((nr (ac >>> 4 &&& 15)) ^^^ (1 <<< (ac &&& 15))))) (ac &&& 15)) ^^^ (1 <<< (ac >>> 4 &&& 15)))) suf) rfl (nW_a1 hb) (by omega) (by decide) (nW_t1 hb) ?_
      refine wq_vret rfl rfl ?_
      exact k1 c56
    · skip
      show WP _ _ _ _ 59 [.ref b, .int (nI ac), .int (nI (ac >>> 4 &&& 15)), .int (nI (ac &&& 15))] [.int (nI 0), .int (nI edg), .ref b] (nW b pre pts edg nr suf)
      refine wq_if_eq rfl (fun _ => ?_) (fun c => absurd c (by decide))
      refine wq_iconst (v := nI 1) rfl (by decide) ?_
      refine wn_iadd rfl ?_
      refine wq_putfield (h' := nW b pre pts (edg + 1) nr suf) rfl (nW_o0 hb) rfl (nW_s0_2 hb) ?_
      refine wq_aload_n rfl rfl ?_
      refine wq_getfield (v := .ref (b + 1)) rfl (nW_o0 hb) rfl ?_
      refine wq_iload_n rfl rfl ?_
      refine wq_dup2 rfl rfl rfl ?_
      refine wn_iaload (g := nr) rfl (nW_a1 hb) (by omega) (by decide) ?_
      refine wq_iconst (v := nI 1) rfl (by decide) ?_
      refine wq_iload_n rfl rfl ?_
      refine wn_ishl rfl (by omega) hsB ?_
      refine wn_ixor rfl ?_
      refine wn_iastore (g := nr) (h' := nW b pre pts (edg + 1) (uN' nr (ac >>> 4 &&& 15) ((nr (ac >>> 4 &&& 15)) ^^^ (1 <<< (ac &&& 15)))) suf) rfl (nW_a1 hb) (by omega) (by decide) (nW_t1 hb) ?_
      refine wq_aload_n rfl rfl ?_
      refine wq_getfield (v := .ref (b + 1)) rfl (nW_o0 hb) rfl ?_
      refine wq_iload_n rfl rfl ?_
      refine wq_dup2 rfl rfl rfl ?_
      refine wn_iaload (g := (uN' nr (ac >>> 4 &&& 15) ((nr (ac >>> 4 &&& 15)) ^^^ (1 <<< (ac &&& 15))))) rfl (nW_a1 hb) (by omega) (by decide) ?_
      refine wq_iconst (v := nI 1) rfl (by decide) ?_
      refine wq_iload_n rfl rfl ?_
      refine wn_ishl rfl (by omega) hsA ?_
      refine wn_ixor rfl ?_
      refine wn_iastore (g := (uN' nr (ac >>> 4 &&& 15) ((nr (ac >>> 4 &&& 15)) ^^^ (1 <<< (ac &&& 15))))) (h' := nW b pre pts (edg + 1) (uN' ((uN' nr (ac >>> 4 &&& 15) ((nr (ac >>> 4 &&& 15)) ^^^ (1 <<< (ac &&& 15))))) (ac &&& 15) ((((uN' nr (ac >>> 4 &&& 15) ((nr (ac >>> 4 &&& 15)) ^^^ (1 <<< (ac &&& 15))))) (ac &&& 15)) ^^^ (1 <<< (ac >>> 4 &&& 15)))) suf) rfl (nW_a1 hb) (by omega) (by decide) (nW_t1 hb) ?_
      refine wq_vret rfl rfl ?_
      exact k2 c56
  · skip
    show WP _ _ _ _ 32 [.ref b, .int (nI ac), .int (nI (ac >>> 4 &&& 15)), .int (nI (ac &&& 15))] [.int (nI 0)] (nW b pre pts edg nr suf)
    refine wq_if_ne rfl (fun c => absurd c (by decide)) (fun _ => ?_)
    refine wq_aload_n rfl rfl ?_
    refine wq_dup rfl rfl ?_
    refine wq_getfield (v := .int (nI pts)) rfl (nW_o0 hb) rfl ?_
    refine wq_iconst (v := nI 1) rfl (by decide) ?_
    refine wq_iload_n rfl rfl ?_
    refine wn_ishl rfl (by omega) hsA ?_
    refine wn_ixor rfl ?_
    refine wq_putfield (h' := nW b pre (pts ^^^ (1 <<< (ac >>> 4 &&& 15))) edg nr suf) rfl (nW_o0 hb) rfl (nW_s0_1 hb) ?_
    refine wq_vret rfl rfl ?_
    exact k0 (fun q => c29 (by rcases q with q | q <;> rw [q] <;> first | exact Or.inl rfl | exact Or.inr rfl))
theorem r_Net_empty {d b : Nat} {pre suf : mH} {pts : Nat} {edg : Nat} {nr : Nat → Nat} {Q : Option Value → mH → Prop} (hb : pre.length = b) (hQ : Q none (nW b pre 0 0 (fz 0 nr 9) suf)) : Rn mprog (d + 2) n_Net_empty [.ref b] (nW b pre pts edg nr suf) Q := by
  refine Rn.in rfl rfl rfl ?_
  show WP _ _ _ _ 0 [.ref b] [] (nW b pre pts edg nr suf)
  refine wq_aload_n rfl rfl ?_
  refine wq_getfield (v := .ref (b + 1)) rfl (nW_o0 hb) rfl ?_
  refine wq_iconst (v := nI 0) rfl (by decide) ?_
  refine wq_stat (a := [.ref (b + 1), .int (nI 0)]) (rest := []) rfl rfl rfl rfl rfl ?_
  refine r_fill (g := nr) (nW_a1 hb) (by decide) ?_
  rw [nW_t1 hb]
  show WP _ _ _ _ 8 [.ref b] [] (nW b pre pts edg (fz 0 nr 9) suf)
  refine wq_aload_n rfl rfl ?_
  refine wq_iconst (v := nI 0) rfl (by decide) ?_
  refine wq_putfield (h' := nW b pre 0 edg (fz 0 nr 9) suf) rfl (nW_o0 hb) rfl (nW_s0_1 hb) ?_
  refine wq_aload_n rfl rfl ?_
  refine wq_iconst (v := nI 0) rfl (by decide) ?_
  refine wq_putfield (h' := nW b pre 0 0 (fz 0 nr 9) suf) rfl (nW_o0 hb) rfl (nW_s0_2 hb) ?_
  refine wq_vret rfl rfl ?_
  exact hQ
