/-! Story: step -/
theorem r_Net_chg0 {d b : Nat} {pre suf : mH} {pts : Nat} {edg : Nat} {nr : Nat → Nat} {Q : Option Value → mH → Prop} (hb : pre.length = b) {ac : Nat} (hac : ac < 1024) (hA : ac >>> 4 &&& 15 < 9) (hB : ac &&& 15 < 9) (hκ : ac >>> 8 = 0 ∨ ac >>> 8 = 1) (hQ : Q none (nW b pre (pts ^^^ 1 <<< (ac >>> 4 &&& 15)) edg nr suf)) : Rn mprog (d + 4) n_Net_change [.ref b, .int (nI ac)] (nW b pre pts edg nr suf) Q := by
  refine Rn.in rfl rfl rfl ?_
  show WP _ _ _ _ 0 [.ref b, .int (nI ac), .long 0, .long 0] [] (nW b pre pts edg nr suf)
  refine wq_iload_n rfl rfl ?_
  refine wq_stat (a := [.int (nI ac)]) (rest := []) rfl rfl rfl rfl rfl ?_
  refine r_Z_lowOf (by omega) ?_
  show WP _ _ _ _ 4 [.ref b, .int (nI ac), .long 0, .long 0] [.int (nI (ac >>> 4 &&& 15))] (nW b pre pts edg nr suf)
  refine wq_istore_n (lv' := [.ref b, .int (nI ac), .int (nI (ac >>> 4 &&& 15)), .long 0]) rfl rfl rfl ?_
  refine wq_iload_n rfl rfl ?_
  refine wq_stat (a := [.int (nI ac)]) (rest := []) rfl rfl rfl rfl rfl ?_
  refine r_Z_highOf ?_
  show WP _ _ _ _ 9 [.ref b, .int (nI ac), .int (nI (ac >>> 4 &&& 15)), .long 0] [.int (nI (ac &&& 15))] (nW b pre pts edg nr suf)
  refine wq_istore_n (lv' := [.ref b, .int (nI ac), .int (nI (ac >>> 4 &&& 15)), .int (nI (ac &&& 15))]) rfl rfl rfl ?_
  refine wq_iload_n rfl rfl ?_
  refine wq_stat (a := [.int (nI (ac >>> 4 &&& 15))]) (rest := []) rfl rfl rfl rfl rfl ?_
  refine r_Z_isPt (by omega) ?_
  show WP _ _ _ _ 14 [.ref b, .int (nI ac), .int (nI (ac >>> 4 &&& 15)), .int (nI (ac &&& 15))] [.int (nI 1)] (nW b pre pts edg nr suf)
  refine wq_if_eq rfl (fun c => absurd c (by decide)) (fun _ => ?_)
  refine wq_iload_n rfl rfl ?_
  refine wq_stat (a := [.int (nI (ac &&& 15))]) (rest := []) rfl rfl rfl rfl rfl ?_
  refine r_Z_isPt (by omega) ?_
  show WP _ _ _ _ 21 [.ref b, .int (nI ac), .int (nI (ac >>> 4 &&& 15)), .int (nI (ac &&& 15))] [.int (nI 1)] (nW b pre pts edg nr suf)
  refine wq_if_ne rfl (fun _ => ?_) (fun c => absurd c (by decide))
  have hsA := Nat.lt_trans (sh_lt (n := 9) hA) (show 2 ^ 9 < 2 ^ 32 by decide)
  have hsB := Nat.lt_trans (sh_lt (n := 9) hB) (show 2 ^ 9 < 2 ^ 32 by decide)
  refine wq_iload_n rfl rfl ?_
  refine wq_stat (a := [.int (nI ac)]) (rest := []) rfl rfl rfl rfl rfl ?_
  refine r_Z_kindOf (by omega) ?_
  show WP _ _ _ _ 29 [.ref b, .int (nI ac), .int (nI (ac >>> 4 &&& 15)), .int (nI (ac &&& 15))] [.int (nI (ac >>> 8))] (nW b pre pts edg nr suf)
  refine wq_stat (a := [.int (nI (ac >>> 8))]) (rest := []) rfl rfl rfl rfl rfl ?_
  refine r_Z_isOfEdge (fun c => absurd c (by rcases hκ with q | q <;> rw [q] <;> decide)) (fun _ => ?_)
  show WP _ _ _ _ 32 [.ref b, .int (nI ac), .int (nI (ac >>> 4 &&& 15)), .int (nI (ac &&& 15))] [.int (nI 0)] (nW b pre pts edg nr suf)
  refine wq_if_ne rfl (fun c => absurd c (by decide)) (fun _ => ?_)
  refine wq_aload_n rfl rfl ?_
  refine wq_dup rfl rfl ?_
  refine wq_getfield (v := .int (nI pts)) rfl (nW_o0 hb) rfl ?_
  refine wq_iconst (v := nI 1) rfl (by decide) ?_
  refine wq_iload_n rfl rfl ?_
  refine wn_ishl rfl (by omega) hsA ?_
  refine wn_ixor rfl ?_
  refine wq_putfield (h' := nW b pre (pts ^^^ (1 <<< (ac >>> 4 &&& 15))) edg nr suf) rfl (nW_o0 hb) rfl (nW_s0_1 hb) ?_
  refine wq_vret rfl rfl ?_
  exact hQ
theorem r_Net_chg2 {d b : Nat} {pre suf : mH} {pts : Nat} {edg : Nat} {nr : Nat → Nat} {Q : Option Value → mH → Prop} (hb : pre.length = b) {ac : Nat} (hac : ac < 1024) (hA : ac >>> 4 &&& 15 < 9) (hB : ac &&& 15 < 9) (hnr : ∀ p, p < 9 → nr p < 512) (hκ : ac >>> 8 = 2 ∨ ac >>> 8 = 3) (hbit : (nr (ac >>> 4 &&& 15)).testBit (ac &&& 15) = false) (hQ : Q none (nW b pre pts (edg + 1) (nrX nr (ac >>> 4 &&& 15) (ac &&& 15)) suf)) : Rn mprog (d + 4) n_Net_change [.ref b, .int (nI ac)] (nW b pre pts edg nr suf) Q := by
  refine Rn.in rfl rfl rfl ?_
  show WP _ _ _ _ 0 [.ref b, .int (nI ac), .long 0, .long 0] [] (nW b pre pts edg nr suf)
  refine wq_iload_n rfl rfl ?_
  refine wq_stat (a := [.int (nI ac)]) (rest := []) rfl rfl rfl rfl rfl ?_
  refine r_Z_lowOf (by omega) ?_
  show WP _ _ _ _ 4 [.ref b, .int (nI ac), .long 0, .long 0] [.int (nI (ac >>> 4 &&& 15))] (nW b pre pts edg nr suf)
  refine wq_istore_n (lv' := [.ref b, .int (nI ac), .int (nI (ac >>> 4 &&& 15)), .long 0]) rfl rfl rfl ?_
  refine wq_iload_n rfl rfl ?_
  refine wq_stat (a := [.int (nI ac)]) (rest := []) rfl rfl rfl rfl rfl ?_
  refine r_Z_highOf ?_
  show WP _ _ _ _ 9 [.ref b, .int (nI ac), .int (nI (ac >>> 4 &&& 15)), .long 0] [.int (nI (ac &&& 15))] (nW b pre pts edg nr suf)
  refine wq_istore_n (lv' := [.ref b, .int (nI ac), .int (nI (ac >>> 4 &&& 15)), .int (nI (ac &&& 15))]) rfl rfl rfl ?_
  refine wq_iload_n rfl rfl ?_
  refine wq_stat (a := [.int (nI (ac >>> 4 &&& 15))]) (rest := []) rfl rfl rfl rfl rfl ?_
  refine r_Z_isPt (by omega) ?_
  show WP _ _ _ _ 14 [.ref b, .int (nI ac), .int (nI (ac >>> 4 &&& 15)), .int (nI (ac &&& 15))] [.int (nI 1)] (nW b pre pts edg nr suf)
  refine wq_if_eq rfl (fun c => absurd c (by decide)) (fun _ => ?_)
  refine wq_iload_n rfl rfl ?_
  refine wq_stat (a := [.int (nI (ac &&& 15))]) (rest := []) rfl rfl rfl rfl rfl ?_
  refine r_Z_isPt (by omega) ?_
  show WP _ _ _ _ 21 [.ref b, .int (nI ac), .int (nI (ac >>> 4 &&& 15)), .int (nI (ac &&& 15))] [.int (nI 1)] (nW b pre pts edg nr suf)
  refine wq_if_ne rfl (fun _ => ?_) (fun c => absurd c (by decide))
  have hsA := Nat.lt_trans (sh_lt (n := 9) hA) (show 2 ^ 9 < 2 ^ 32 by decide)
  have hsB := Nat.lt_trans (sh_lt (n := 9) hB) (show 2 ^ 9 < 2 ^ 32 by decide)
  refine wq_iload_n rfl rfl ?_
  refine wq_stat (a := [.int (nI ac)]) (rest := []) rfl rfl rfl rfl rfl ?_
  refine r_Z_kindOf (by omega) ?_
  show WP _ _ _ _ 29 [.ref b, .int (nI ac), .int (nI (ac >>> 4 &&& 15)), .int (nI (ac &&& 15))] [.int (nI (ac >>> 8))] (nW b pre pts edg nr suf)
  refine wq_stat (a := [.int (nI (ac >>> 8))]) (rest := []) rfl rfl rfl rfl rfl ?_
  refine r_Z_isOfEdge (fun _ => ?_) (fun c => absurd (by rcases hκ with q | q <;> rw [q] <;> first | exact Or.inl rfl | exact Or.inr rfl) c)
  show WP _ _ _ _ 32 [.ref b, .int (nI ac), .int (nI (ac >>> 4 &&& 15)), .int (nI (ac &&& 15))] [.int (nI 1)] (nW b pre pts edg nr suf)
  refine wq_if_ne rfl (fun _ => ?_) (fun c => absurd c (by decide))
  refine wq_aload_n rfl rfl ?_
  refine wq_dup rfl rfl ?_
  refine wq_getfield (v := .int (nI edg)) rfl (nW_o0 hb) rfl ?_
  refine wq_aload_n rfl rfl ?_
  refine wq_iload_n rfl rfl ?_
  refine wq_iload_n rfl rfl ?_
  refine wq_virt (b := b) (a := [.int (nI (ac >>> 4 &&& 15)), .int (nI (ac &&& 15))]) (rest := [.int (nI edg), .ref b]) rfl rfl rfl rfl rfl (nW_o0 hb) ?_
  refine r_Net_joined hb (by omega) (by omega) hnr (fun c56 => absurd c56 (by rw [hbit]; decide)) (fun c56 => ?_)
  show WP _ _ _ _ 59 [.ref b, .int (nI ac), .int (nI (ac >>> 4 &&& 15)), .int (nI (ac &&& 15))] [.int (nI 0), .int (nI edg), .ref b] (nW b pre pts edg nr suf)
  refine wq_if_eq rfl (fun _ => ?_) (fun c => absurd c (by decide))
  refine wq_iconst (v := nI 1) rfl (by decide) ?_
  refine wn_iadd rfl ?_
  refine wq_putfield (h' := nW b pre pts (edg + 1) nr suf) rfl (nW_o0 hb) rfl (nW_s0_2 hb) ?_
  refine wq_aload_n rfl rfl ?_
  refine wq_getfield (v := .ref (b + 1)) rfl (nW_o0 hb) rfl ?_
  refine wq_iload_n rfl rfl ?_
  refine wq_dup2 rfl rfl rfl ?_
  refine wn_iaload (g := nr) rfl (nW_a1 hb) (by omega) (by decide) ?_
  refine wq_iconst (v := nI 1) rfl (by decide) ?_
  refine wq_iload_n rfl rfl ?_
  refine wn_ishl rfl (by omega) hsB ?_
  refine wn_ixor rfl ?_
  refine wn_iastore (g := nr) (h' := nW b pre pts (edg + 1) (uN' nr (ac >>> 4 &&& 15) ((nr (ac >>> 4 &&& 15)) ^^^ (1 <<< (ac &&& 15)))) suf) rfl (nW_a1 hb) (by omega) (by decide) (nW_t1 hb) ?_
  refine wq_aload_n rfl rfl ?_
  refine wq_getfield (v := .ref (b + 1)) rfl (nW_o0 hb) rfl ?_
  refine wq_iload_n rfl rfl ?_
  refine wq_dup2 rfl rfl rfl ?_
  refine wn_iaload (g := (uN' nr (ac >>> 4 &&& 15) ((nr (ac >>> 4 &&& 15)) ^^^ (1 <<< (ac &&& 15))))) rfl (nW_a1 hb) (by omega) (by decide) ?_
  refine wq_iconst (v := nI 1) rfl (by decide) ?_
  refine wq_iload_n rfl rfl ?_
  refine wn_ishl rfl (by omega) hsA ?_
  refine wn_ixor rfl ?_
  refine wn_iastore (g := (uN' nr (ac >>> 4 &&& 15) ((nr (ac >>> 4 &&& 15)) ^^^ (1 <<< (ac &&& 15))))) (h' := nW b pre pts (edg + 1) (uN' ((uN' nr (ac >>> 4 &&& 15) ((nr (ac >>> 4 &&& 15)) ^^^ (1 <<< (ac &&& 15))))) (ac &&& 15) ((((uN' nr (ac >>> 4 &&& 15) ((nr (ac >>> 4 &&& 15)) ^^^ (1 <<< (ac &&& 15))))) (ac &&& 15)) ^^^ (1 <<< (ac >>> 4 &&& 15)))) suf) rfl (nW_a1 hb) (by omega) (by decide) (nW_t1 hb) ?_
  refine wq_vret rfl rfl ?_
  exact hQ
theorem r_Net_chg3 {d b : Nat} {pre suf : mH} {pts : Nat} {edg : Nat} {nr : Nat → Nat} {Q : Option Value → mH → Prop} (hb : pre.length = b) {ac : Nat} (hac : ac < 1024) (hA : ac >>> 4 &&& 15 < 9) (hB : ac &&& 15 < 9) (hnr : ∀ p, p < 9 → nr p < 512) (hκ : ac >>> 8 = 2 ∨ ac >>> 8 = 3) (hbit : (nr (ac >>> 4 &&& 15)).testBit (ac &&& 15) = true) (he : 0 < edg) (hQ : Q none (nW b pre pts (edg - 1) (nrX nr (ac >>> 4 &&& 15) (ac &&& 15)) suf)) : Rn mprog (d + 4) n_Net_change [.ref b, .int (nI ac)] (nW b pre pts edg nr suf) Q := by
  refine Rn.in rfl rfl rfl ?_
  show WP _ _ _ _ 0 [.ref b, .int (nI ac), .long 0, .long 0] [] (nW b pre pts edg nr suf)
  refine wq_iload_n rfl rfl ?_
  refine wq_stat (a := [.int (nI ac)]) (rest := []) rfl rfl rfl rfl rfl ?_
  refine r_Z_lowOf (by omega) ?_
  show WP _ _ _ _ 4 [.ref b, .int (nI ac), .long 0, .long 0] [.int (nI (ac >>> 4 &&& 15))] (nW b pre pts edg nr suf)
  refine wq_istore_n (lv' := [.ref b, .int (nI ac), .int (nI (ac >>> 4 &&& 15)), .long 0]) rfl rfl rfl ?_
  refine wq_iload_n rfl rfl ?_
  refine wq_stat (a := [.int (nI ac)]) (rest := []) rfl rfl rfl rfl rfl ?_
  refine r_Z_highOf ?_
  show WP _ _ _ _ 9 [.ref b, .int (nI ac), .int (nI (ac >>> 4 &&& 15)), .long 0] [.int (nI (ac &&& 15))] (nW b pre pts edg nr suf)
  refine wq_istore_n (lv' := [.ref b, .int (nI ac), .int (nI (ac >>> 4 &&& 15)), .int (nI (ac &&& 15))]) rfl rfl rfl ?_
  refine wq_iload_n rfl rfl ?_
  refine wq_stat (a := [.int (nI (ac >>> 4 &&& 15))]) (rest := []) rfl rfl rfl rfl rfl ?_
  refine r_Z_isPt (by omega) ?_
  show WP _ _ _ _ 14 [.ref b, .int (nI ac), .int (nI (ac >>> 4 &&& 15)), .int (nI (ac &&& 15))] [.int (nI 1)] (nW b pre pts edg nr suf)
  refine wq_if_eq rfl (fun c => absurd c (by decide)) (fun _ => ?_)
  refine wq_iload_n rfl rfl ?_
  refine wq_stat (a := [.int (nI (ac &&& 15))]) (rest := []) rfl rfl rfl rfl rfl ?_
  refine r_Z_isPt (by omega) ?_
  show WP _ _ _ _ 21 [.ref b, .int (nI ac), .int (nI (ac >>> 4 &&& 15)), .int (nI (ac &&& 15))] [.int (nI 1)] (nW b pre pts edg nr suf)
  refine wq_if_ne rfl (fun _ => ?_) (fun c => absurd c (by decide))
  have hsA := Nat.lt_trans (sh_lt (n := 9) hA) (show 2 ^ 9 < 2 ^ 32 by decide)
  have hsB := Nat.lt_trans (sh_lt (n := 9) hB) (show 2 ^ 9 < 2 ^ 32 by decide)
  refine wq_iload_n rfl rfl ?_
  refine wq_stat (a := [.int (nI ac)]) (rest := []) rfl rfl rfl rfl rfl ?_
  refine r_Z_kindOf (by omega) ?_
  show WP _ _ _ _ 29 [.ref b, .int (nI ac), .int (nI (ac >>> 4 &&& 15)), .int (nI (ac &&& 15))] [.int (nI (ac >>> 8))] (nW b pre pts edg nr suf)
  refine wq_stat (a := [.int (nI (ac >>> 8))]) (rest := []) rfl rfl rfl rfl rfl ?_
  refine r_Z_isOfEdge (fun _ => ?_) (fun c => absurd (by rcases hκ with q | q <;> rw [q] <;> first | exact Or.inl rfl | exact Or.inr rfl) c)
  show WP _ _ _ _ 32 [.ref b, .int (nI ac), .int (nI (ac >>> 4 &&& 15)), .int (nI (ac &&& 15))] [.int (nI 1)] (nW b pre pts edg nr suf)
  refine wq_if_ne rfl (fun _ => ?_) (fun c => absurd c (by decide))
  refine wq_aload_n rfl rfl ?_
  refine wq_dup rfl rfl ?_
  refine wq_getfield (v := .int (nI edg)) rfl (nW_o0 hb) rfl ?_
  refine wq_aload_n rfl rfl ?_
  refine wq_iload_n rfl rfl ?_
  refine wq_iload_n rfl rfl ?_
  refine wq_virt (b := b) (a := [.int (nI (ac >>> 4 &&& 15)), .int (nI (ac &&& 15))]) (rest := [.int (nI edg), .ref b]) rfl rfl rfl rfl rfl (nW_o0 hb) ?_
  refine r_Net_joined hb (by omega) (by omega) hnr (fun c56 => ?_) (fun c56 => absurd c56 (by rw [hbit]; decide))
  show WP _ _ _ _ 59 [.ref b, .int (nI ac), .int (nI (ac >>> 4 &&& 15)), .int (nI (ac &&& 15))] [.int (nI 1), .int (nI edg), .ref b] (nW b pre pts edg nr suf)
  refine wq_if_eq rfl (fun c => absurd c (by decide)) (fun _ => ?_)
  refine wq_iconst (v := (-1)) rfl (by decide) ?_
  refine wq_goto rfl ?_
  refine wq_iadd (v := nI (edg - 1)) rfl (nI_dec he) ?_
  refine wq_putfield (h' := nW b pre pts (edg - 1) nr suf) rfl (nW_o0 hb) rfl (nW_s0_2 hb) ?_
  refine wq_aload_n rfl rfl ?_
  refine wq_getfield (v := .ref (b + 1)) rfl (nW_o0 hb) rfl ?_
  refine wq_iload_n rfl rfl ?_
  refine wq_dup2 rfl rfl rfl ?_
  refine wn_iaload (g := nr) rfl (nW_a1 hb) (by omega) (by decide) ?_
  refine wq_iconst (v := nI 1) rfl (by decide) ?_
  refine wq_iload_n rfl rfl ?_
  refine wn_ishl rfl (by omega) hsB ?_
  refine wn_ixor rfl ?_
  refine wn_iastore (g := nr) (h' := nW b pre pts (edg - 1) (uN' nr (ac >>> 4 &&& 15) ((nr (ac >>> 4 &&& 15)) ^^^ (1 <<< (ac &&& 15)))) suf) rfl (nW_a1 hb) (by omega) (by decide) (nW_t1 hb) ?_
  refine wq_aload_n rfl rfl ?_
  refine wq_getfield (v := .ref (b + 1)) rfl (nW_o0 hb) rfl ?_
  refine wq_iload_n rfl rfl ?_
  refine wq_dup2 rfl rfl rfl ?_
  refine wn_iaload (g := (uN' nr (ac >>> 4 &&& 15) ((nr (ac >>> 4 &&& 15)) ^^^ (1 <<< (ac &&& 15))))) rfl (nW_a1 hb) (by omega) (by decide) ?_
  refine wq_iconst (v := nI 1) rfl (by decide) ?_
  refine wq_iload_n rfl rfl ?_
  refine wn_ishl rfl (by omega) hsA ?_
  refine wn_ixor rfl ?_
  refine wn_iastore (g := (uN' nr (ac >>> 4 &&& 15) ((nr (ac >>> 4 &&& 15)) ^^^ (1 <<< (ac &&& 15))))) (h' := nW b pre pts (edg - 1) (uN' ((uN' nr (ac >>> 4 &&& 15) ((nr (ac >>> 4 &&& 15)) ^^^ (1 <<< (ac &&& 15))))) (ac &&& 15) ((((uN' nr (ac >>> 4 &&& 15) ((nr (ac >>> 4 &&& 15)) ^^^ (1 <<< (ac &&& 15))))) (ac &&& 15)) ^^^ (1 <<< (ac >>> 4 &&& 15)))) suf) rfl (nW_a1 hb) (by omega) (by decide) (nW_t1 hb) ?_
  refine wq_vret rfl rfl ?_
  exact hQ
theorem r_Sto_step0 {d b : Nat} {pre suf : mH} {pts : Nat} {edg : Nat} {nr : Nat → Nat} {rt : Nat → Nat} {sc : Nat → Nat → Nat} {wf : Nat → Nat} {ws : Nat → Nat} {bsz : Nat} {bop : Nat} {bbg : Nat → Nat} {ben : Nat → Nat} {Q : Option Value → mH → Prop} (hb : pre.length = b) {ac k : Nat} (hac : ac < 1024) (hA : ac >>> 4 &&& 15 < 9) (hB : ac &&& 15 < 9) (hk : k < 1000) (hpt : pts < 512) (hnr : ∀ p, p < 9 → nr p < 512) (hκ : ac >>> 8 = 0) (hAB : ac &&& 15 = ac >>> 4 &&& 15) (habs : pts.testBit (ac >>> 4 &&& 15) = false) (hpx : pts ^^^ 1 <<< (ac >>> 4 &&& 15) < 512) (hpx2 : (pts ^^^ 1 <<< (ac >>> 4 &&& 15)).testBit (ac >>> 4 &&& 15) = true) (hQ : Q none (sW b pre (pts ^^^ 1 <<< (ac >>> 4 &&& 15)) edg nr (uN' rt (ac >>> 4 &&& 15) k) sc wf ws bsz bop bbg ben suf)) : Rn mprog (d + 5) n_Sto_step [.ref b, .int (nI ac), .int (nI k)] (sW b pre pts edg nr rt sc wf ws bsz bop bbg ben suf) Q := by
  refine Rn.in rfl rfl rfl ?_
  show WP _ _ _ _ 0 [.ref b, .int (nI ac), .int (nI k), .long 0, .long 0, .long 0, .long 0] [] (sW b pre pts edg nr rt sc wf ws bsz bop bbg ben suf)
  have hκ2 : ac >>> 8 = 0 ∨ ac >>> 8 = 1 := Or.inl hκ
  refine wq_iload_n rfl rfl ?_
  refine wq_stat (a := [.int (nI ac)]) (rest := []) rfl rfl rfl rfl rfl ?_
  refine r_Z_lowOf (by omega) ?_
  show WP _ _ _ _ 4 [.ref b, .int (nI ac), .int (nI k), .long 0, .long 0, .long 0, .long 0] [.int (nI (ac >>> 4 &&& 15))] (sW b pre pts edg nr rt sc wf ws bsz bop bbg ben suf)
  refine wq_istore_n (lv' := [.ref b, .int (nI ac), .int (nI k), .int (nI (ac >>> 4 &&& 15)), .long 0, .long 0, .long 0]) rfl rfl rfl ?_
  refine wq_iload_n rfl rfl ?_
  refine wq_stat (a := [.int (nI ac)]) (rest := []) rfl rfl rfl rfl rfl ?_
  refine r_Z_highOf ?_
  show WP _ _ _ _ 9 [.ref b, .int (nI ac), .int (nI k), .int (nI (ac >>> 4 &&& 15)), .long 0, .long 0, .long 0] [.int (nI (ac &&& 15))] (sW b pre pts edg nr rt sc wf ws bsz bop bbg ben suf)
  refine wq_istore (lv' := [.ref b, .int (nI ac), .int (nI k), .int (nI (ac >>> 4 &&& 15)), .int (nI (ac &&& 15)), .long 0, .long 0]) rfl rfl rfl ?_
  refine wq_aload_n rfl rfl ?_
  refine wq_getfield (v := .ref (b + 1)) rfl (sW_o0 hb) rfl ?_
  refine wq_iload_n rfl rfl ?_
  refine wq_virt (b := b + 1) (a := [.int (nI (ac >>> 4 &&& 15))]) (rest := []) rfl rfl rfl rfl rfl (sW_o1 hb) ?_
  rw [sW_n]
  refine r_Net_pieceOf_no (sW_ln hb) (by omega) (by omega) (by assumption) ?_
  rw [← sW_n]
  show WP _ _ _ _ 19 [.ref b, .int (nI ac), .int (nI k), .int (nI (ac >>> 4 &&& 15)), .int (nI (ac &&& 15)), .long 0, .long 0] [.int (nI 0)] (sW b pre pts edg nr rt sc wf ws bsz bop bbg ben suf)
  refine wq_iload rfl rfl ?_
  refine wq_stat (a := [.int (nI 0), .int (nI (ac &&& 15))]) (rest := []) rfl rfl rfl rfl rfl ?_
  refine r_Z_isIn (by omega) (by omega) (fun c21 => absurd c21 (by simp)) (fun c21 => ?_)
  show WP _ _ _ _ 24 [.ref b, .int (nI ac), .int (nI k), .int (nI (ac >>> 4 &&& 15)), .int (nI (ac &&& 15)), .long 0, .long 0] [.int (nI 0)] (sW b pre pts edg nr rt sc wf ws bsz bop bbg ben suf)
  refine wq_istore (lv' := [.ref b, .int (nI ac), .int (nI k), .int (nI (ac >>> 4 &&& 15)), .int (nI (ac &&& 15)), .int (nI 0), .long 0]) rfl rfl rfl ?_
  refine wq_aload_n rfl rfl ?_
  refine wq_getfield (v := .ref (b + 1)) rfl (sW_o0 hb) rfl ?_
  refine wq_iload_n rfl rfl ?_
  refine wq_virt (b := b + 1) (a := [.int (nI ac)]) (rest := []) rfl rfl rfl rfl rfl (sW_o1 hb) ?_
  rw [sW_n]
  refine r_Net_chg0 (sW_ln hb) hac hA hB hκ2 ?_
  rw [← sW_n]
  show WP _ _ _ _ 34 [.ref b, .int (nI ac), .int (nI k), .int (nI (ac >>> 4 &&& 15)), .int (nI (ac &&& 15)), .int (nI 0), .long 0] [] (sW b pre (pts ^^^ 1 <<< (ac >>> 4 &&& 15)) edg nr rt sc wf ws bsz bop bbg ben suf)
  refine wq_aload_n rfl rfl ?_
  refine wq_getfield (v := .ref (b + 1)) rfl (sW_o0 hb) rfl ?_
  refine wq_iload_n rfl rfl ?_
  refine wq_virt (b := b + 1) (a := [.int (nI (ac >>> 4 &&& 15))]) (rest := []) rfl rfl rfl rfl rfl (sW_o1 hb) ?_
  rw [sW_n]
  refine r_Net_pieceOf (sW_ln hb) (by omega) hnr ?_ (by omega) hpx2
  intro R hR
  have hRl := hR.1
  rw [← sW_n]
  show WP _ _ _ _ 42 [.ref b, .int (nI ac), .int (nI k), .int (nI (ac >>> 4 &&& 15)), .int (nI (ac &&& 15)), .int (nI 0), .long 0] [.int (nI R)] (sW b pre (pts ^^^ 1 <<< (ac >>> 4 &&& 15)) edg nr rt sc wf ws bsz bop bbg ben suf)
  refine wq_iload rfl rfl ?_
  refine wq_stat (a := [.int (nI R), .int (nI (ac &&& 15))]) (rest := []) rfl rfl rfl rfl rfl ?_
  refine r_Z_isIn (by omega) (by omega) (fun c44 => ?_) (fun c44 => absurd c44 (by rw [hAB, hR.2.1]; decide))
  show WP _ _ _ _ 47 [.ref b, .int (nI ac), .int (nI k), .int (nI (ac >>> 4 &&& 15)), .int (nI (ac &&& 15)), .int (nI 0), .long 0] [.int (nI 1)] (sW b pre (pts ^^^ 1 <<< (ac >>> 4 &&& 15)) edg nr rt sc wf ws bsz bop bbg ben suf)
  refine wq_istore (lv' := [.ref b, .int (nI ac), .int (nI k), .int (nI (ac >>> 4 &&& 15)), .int (nI (ac &&& 15)), .int (nI 0), .int (nI 1)]) rfl rfl rfl ?_
  refine wq_iload_n rfl rfl ?_
  refine wq_stat (a := [.int (nI ac)]) (rest := []) rfl rfl rfl rfl rfl ?_
  refine r_Z_kindOf (by omega) ?_
  show WP _ _ _ _ 53 [.ref b, .int (nI ac), .int (nI k), .int (nI (ac >>> 4 &&& 15)), .int (nI (ac &&& 15)), .int (nI 0), .int (nI 1)] [.int (nI (ac >>> 8))] (sW b pre (pts ^^^ 1 <<< (ac >>> 4 &&& 15)) edg nr rt sc wf ws bsz bop bbg ben suf)
  refine wq_tsw (t := 80) rfl (by rw [hκ]; decide) ?_
  refine wq_aload_n rfl rfl ?_
  refine wq_getfield (v := .ref (b + 3)) rfl (sW_o0 hb) rfl ?_
  refine wq_iload_n rfl rfl ?_
  refine wq_iload_n rfl rfl ?_
  refine wq_virt (b := b + 3) (a := [.int (nI (ac >>> 4 &&& 15)), .int (nI k)]) (rest := []) rfl rfl rfl rfl rfl (sW_o3 hb) ?_
  rw [sW_k]
  refine r_Kin_come (sW_lk hb) (by omega) ?_
  rw [← sW_k]
  show WP _ _ _ _ 89 [.ref b, .int (nI ac), .int (nI k), .int (nI (ac >>> 4 &&& 15)), .int (nI (ac &&& 15)), .int (nI 0), .int (nI 1)] [] (sW b pre (pts ^^^ 1 <<< (ac >>> 4 &&& 15)) edg nr (uN' rt (ac >>> 4 &&& 15) k) sc wf ws bsz bop bbg ben suf)
  refine wq_goto rfl ?_
  refine wq_vret rfl rfl ?_
  exact hQ
theorem r_Sto_step1 {d b : Nat} {pre suf : mH} {pts : Nat} {edg : Nat} {nr : Nat → Nat} {rt : Nat → Nat} {sc : Nat → Nat → Nat} {wf : Nat → Nat} {ws : Nat → Nat} {bsz : Nat} {bop : Nat} {bbg : Nat → Nat} {ben : Nat → Nat} {Q : Option Value → mH → Prop} (hb : pre.length = b) {ac k : Nat} (hac : ac < 1024) (hA : ac >>> 4 &&& 15 < 9) (hB : ac &&& 15 < 9) (hk : k < 1000) (hpt : pts < 512) (hnr : ∀ p, p < 9 → nr p < 512) (hbs : bsz < 40) (hbv : ∀ i, i < 40 → bbg i < 2 ^ 31 ∧ ben i < 2 ^ 31) (hsc : ∀ p q, p < 9 → q < 9 → sc p q < 1000) (hrt : ∀ p, p < 9 → rt p < 1000) (hκ : ac >>> 8 = 1) (hAB : ac &&& 15 = ac >>> 4 &&& 15) (hin : pts.testBit (ac >>> 4 &&& 15) = true) (hpx : pts ^^^ 1 <<< (ac >>> 4 &&& 15) < 512) (hpx2 : (pts ^^^ 1 <<< (ac >>> 4 &&& 15)).testBit (ac >>> 4 &&& 15) = false) (hQ : ∀ p, p ≤ bsz → (∀ i, p ≤ i → i < bsz → gtP (bbg i) (ben i) (if 0 < mxS (pts ^^^ 1 <<< (ac >>> 4 &&& 15)) (sc (ac >>> 4 &&& 15)) 9 then mxS (pts ^^^ 1 <<< (ac >>> 4 &&& 15)) (sc (ac >>> 4 &&& 15)) 9 else rt (ac >>> 4 &&& 15)) k = true) → (p = 0 ∨ gtP (bbg (p - 1)) (ben (p - 1)) (if 0 < mxS (pts ^^^ 1 <<< (ac >>> 4 &&& 15)) (sc (ac >>> 4 &&& 15)) 9 then mxS (pts ^^^ 1 <<< (ac >>> 4 &&& 15)) (sc (ac >>> 4 &&& 15)) 9 else rt (ac >>> 4 &&& 15)) k = false) → Q none (sW b pre (pts ^^^ 1 <<< (ac >>> 4 &&& 15)) edg nr (uN' rt (ac >>> 4 &&& 15) 0) (kz sc (ac >>> 4 &&& 15) 9) wf ws (bsz + 1) (if k = 99 then bop + 1 else bop) (inA bbg p bsz (if 0 < mxS (pts ^^^ 1 <<< (ac >>> 4 &&& 15)) (sc (ac >>> 4 &&& 15)) 9 then mxS (pts ^^^ 1 <<< (ac >>> 4 &&& 15)) (sc (ac >>> 4 &&& 15)) 9 else rt (ac >>> 4 &&& 15))) (inA ben p bsz k) suf)) : Rn mprog (d + 5) n_Sto_step [.ref b, .int (nI ac), .int (nI k)] (sW b pre pts edg nr rt sc wf ws bsz bop bbg ben suf) Q := by
  refine Rn.in rfl rfl rfl ?_
  show WP _ _ _ _ 0 [.ref b, .int (nI ac), .int (nI k), .long 0, .long 0, .long 0, .long 0] [] (sW b pre pts edg nr rt sc wf ws bsz bop bbg ben suf)
  have hκ2 : ac >>> 8 = 0 ∨ ac >>> 8 = 1 := Or.inr hκ
  have hm := mxS_le (oth := pts ^^^ 1 <<< (ac >>> 4 &&& 15)) (m := 999) (r := sc (ac >>> 4 &&& 15)) (fun q hq => by have := hsc _ q hA hq; omega) 9 (Nat.le_refl 9)
  have hr1 := hrt _ hA
  have hbeg : (if 0 < mxS (pts ^^^ 1 <<< (ac >>> 4 &&& 15)) (sc (ac >>> 4 &&& 15)) 9 then mxS (pts ^^^ 1 <<< (ac >>> 4 &&& 15)) (sc (ac >>> 4 &&& 15)) 9 else rt (ac >>> 4 &&& 15)) < 1000 := by split <;> omega
  refine wq_iload_n rfl rfl ?_
  refine wq_stat (a := [.int (nI ac)]) (rest := []) rfl rfl rfl rfl rfl ?_
  refine r_Z_lowOf (by omega) ?_
  show WP _ _ _ _ 4 [.ref b, .int (nI ac), .int (nI k), .long 0, .long 0, .long 0, .long 0] [.int (nI (ac >>> 4 &&& 15))] (sW b pre pts edg nr rt sc wf ws bsz bop bbg ben suf)
  refine wq_istore_n (lv' := [.ref b, .int (nI ac), .int (nI k), .int (nI (ac >>> 4 &&& 15)), .long 0, .long 0, .long 0]) rfl rfl rfl ?_
  refine wq_iload_n rfl rfl ?_
  refine wq_stat (a := [.int (nI ac)]) (rest := []) rfl rfl rfl rfl rfl ?_
  refine r_Z_highOf ?_
  show WP _ _ _ _ 9 [.ref b, .int (nI ac), .int (nI k), .int (nI (ac >>> 4 &&& 15)), .long 0, .long 0, .long 0] [.int (nI (ac &&& 15))] (sW b pre pts edg nr rt sc wf ws bsz bop bbg ben suf)
  refine wq_istore (lv' := [.ref b, .int (nI ac), .int (nI k), .int (nI (ac >>> 4 &&& 15)), .int (nI (ac &&& 15)), .long 0, .long 0]) rfl rfl rfl ?_
  refine wq_aload_n rfl rfl ?_
  refine wq_getfield (v := .ref (b + 1)) rfl (sW_o0 hb) rfl ?_
  refine wq_iload_n rfl rfl ?_
  refine wq_virt (b := b + 1) (a := [.int (nI (ac >>> 4 &&& 15))]) (rest := []) rfl rfl rfl rfl rfl (sW_o1 hb) ?_
  rw [sW_n]
  refine r_Net_pieceOf (sW_ln hb) (by omega) hnr ?_ (by omega) hin
  intro R hR
  have hRl := hR.1
  rw [← sW_n]
  show WP _ _ _ _ 19 [.ref b, .int (nI ac), .int (nI k), .int (nI (ac >>> 4 &&& 15)), .int (nI (ac &&& 15)), .long 0, .long 0] [.int (nI R)] (sW b pre pts edg nr rt sc wf ws bsz bop bbg ben suf)
  refine wq_iload rfl rfl ?_
  refine wq_stat (a := [.int (nI R), .int (nI (ac &&& 15))]) (rest := []) rfl rfl rfl rfl rfl ?_
  refine r_Z_isIn (by omega) (by omega) (fun c21 => ?_) (fun c21 => absurd c21 (by rw [hAB, hR.2.1]; decide))
  show WP _ _ _ _ 24 [.ref b, .int (nI ac), .int (nI k), .int (nI (ac >>> 4 &&& 15)), .int (nI (ac &&& 15)), .long 0, .long 0] [.int (nI 1)] (sW b pre pts edg nr rt sc wf ws bsz bop bbg ben suf)
  refine wq_istore (lv' := [.ref b, .int (nI ac), .int (nI k), .int (nI (ac >>> 4 &&& 15)), .int (nI (ac &&& 15)), .int (nI 1), .long 0]) rfl rfl rfl ?_
  refine wq_aload_n rfl rfl ?_
  refine wq_getfield (v := .ref (b + 1)) rfl (sW_o0 hb) rfl ?_
  refine wq_iload_n rfl rfl ?_
  refine wq_virt (b := b + 1) (a := [.int (nI ac)]) (rest := []) rfl rfl rfl rfl rfl (sW_o1 hb) ?_
  rw [sW_n]
  refine r_Net_chg0 (sW_ln hb) hac hA hB hκ2 ?_
  rw [← sW_n]
  show WP _ _ _ _ 34 [.ref b, .int (nI ac), .int (nI k), .int (nI (ac >>> 4 &&& 15)), .int (nI (ac &&& 15)), .int (nI 1), .long 0] [] (sW b pre (pts ^^^ 1 <<< (ac >>> 4 &&& 15)) edg nr rt sc wf ws bsz bop bbg ben suf)
  refine wq_aload_n rfl rfl ?_
  refine wq_getfield (v := .ref (b + 1)) rfl (sW_o0 hb) rfl ?_
  refine wq_iload_n rfl rfl ?_
  refine wq_virt (b := b + 1) (a := [.int (nI (ac >>> 4 &&& 15))]) (rest := []) rfl rfl rfl rfl rfl (sW_o1 hb) ?_
  rw [sW_n]
  refine r_Net_pieceOf_no (sW_ln hb) (by omega) (by omega) (by assumption) ?_
  rw [← sW_n]
  show WP _ _ _ _ 42 [.ref b, .int (nI ac), .int (nI k), .int (nI (ac >>> 4 &&& 15)), .int (nI (ac &&& 15)), .int (nI 1), .long 0] [.int (nI 0)] (sW b pre (pts ^^^ 1 <<< (ac >>> 4 &&& 15)) edg nr rt sc wf ws bsz bop bbg ben suf)
  refine wq_iload rfl rfl ?_
  refine wq_stat (a := [.int (nI 0), .int (nI (ac &&& 15))]) (rest := []) rfl rfl rfl rfl rfl ?_
  refine r_Z_isIn (by omega) (by omega) (fun c44 => absurd c44 (by simp)) (fun c44 => ?_)
  show WP _ _ _ _ 47 [.ref b, .int (nI ac), .int (nI k), .int (nI (ac >>> 4 &&& 15)), .int (nI (ac &&& 15)), .int (nI 1), .long 0] [.int (nI 0)] (sW b pre (pts ^^^ 1 <<< (ac >>> 4 &&& 15)) edg nr rt sc wf ws bsz bop bbg ben suf)
  refine wq_istore (lv' := [.ref b, .int (nI ac), .int (nI k), .int (nI (ac >>> 4 &&& 15)), .int (nI (ac &&& 15)), .int (nI 1), .int (nI 0)]) rfl rfl rfl ?_
  refine wq_iload_n rfl rfl ?_
  refine wq_stat (a := [.int (nI ac)]) (rest := []) rfl rfl rfl rfl rfl ?_
  refine r_Z_kindOf (by omega) ?_
  show WP _ _ _ _ 53 [.ref b, .int (nI ac), .int (nI k), .int (nI (ac >>> 4 &&& 15)), .int (nI (ac &&& 15)), .int (nI 1), .int (nI 0)] [.int (nI (ac >>> 8))] (sW b pre (pts ^^^ 1 <<< (ac >>> 4 &&& 15)) edg nr rt sc wf ws bsz bop bbg ben suf)
  refine wq_tsw (t := 92) rfl (by rw [hκ]; decide) ?_
  refine wq_aload_n rfl rfl ?_
  refine wq_getfield (v := .ref (b + 8)) rfl (sW_o0 hb) rfl ?_
  refine wq_aload_n rfl rfl ?_
  refine wq_getfield (v := .ref (b + 3)) rfl (sW_o0 hb) rfl ?_
  refine wq_iload_n rfl rfl ?_
  refine wq_aload_n rfl rfl ?_
  refine wq_getfield (v := .ref (b + 1)) rfl (sW_o0 hb) rfl ?_
  refine wq_virt (b := b + 1) (a := []) (rest := [.int (nI (ac >>> 4 &&& 15)), .ref (b + 3), .ref (b + 8)]) rfl rfl rfl rfl rfl (sW_o1 hb) ?_
  rw [sW_n]
  refine r_Net_points (sW_ln hb) ?_
  rw [← sW_n]
  show WP _ _ _ _ 108 [.ref b, .int (nI ac), .int (nI k), .int (nI (ac >>> 4 &&& 15)), .int (nI (ac &&& 15)), .int (nI 1), .int (nI 0)] [.int (nI (pts ^^^ 1 <<< (ac >>> 4 &&& 15))), .int (nI (ac >>> 4 &&& 15)), .ref (b + 3), .ref (b + 8)] (sW b pre (pts ^^^ 1 <<< (ac >>> 4 &&& 15)) edg nr rt sc wf ws bsz bop bbg ben suf)
  refine wq_virt (b := b + 3) (a := [.int (nI (ac >>> 4 &&& 15)), .int (nI (pts ^^^ 1 <<< (ac >>> 4 &&& 15)))]) (rest := [.ref (b + 8)]) rfl rfl rfl rfl rfl (sW_o3 hb) ?_
  rw [sW_k]
  refine r_Kin_bog (sW_lk hb) (by omega) (by omega) (fun q hq => hsc _ q hA hq) ?_
  rw [← sW_k]
  show WP _ _ _ _ 111 [.ref b, .int (nI ac), .int (nI k), .int (nI (ac >>> 4 &&& 15)), .int (nI (ac &&& 15)), .int (nI 1), .int (nI 0)] [.int (nI (if 0 < mxS (pts ^^^ 1 <<< (ac >>> 4 &&& 15)) (sc (ac >>> 4 &&& 15)) 9 then mxS (pts ^^^ 1 <<< (ac >>> 4 &&& 15)) (sc (ac >>> 4 &&& 15)) 9 else rt (ac >>> 4 &&& 15))), .ref (b + 8)] (sW b pre (pts ^^^ 1 <<< (ac >>> 4 &&& 15)) edg nr rt sc wf ws bsz bop bbg ben suf)
  refine wq_iload_n rfl rfl ?_
  refine wq_virt (b := b + 8) (a := [.int (nI (if 0 < mxS (pts ^^^ 1 <<< (ac >>> 4 &&& 15)) (sc (ac >>> 4 &&& 15)) 9 then mxS (pts ^^^ 1 <<< (ac >>> 4 &&& 15)) (sc (ac >>> 4 &&& 15)) 9 else rt (ac >>> 4 &&& 15))), .int (nI k)]) (rest := []) rfl rfl rfl rfl rfl (sW_o8 hb) ?_
  rw [sW_b]
  refine r_Bars_add (sW_lb hb) hbs hbv (by have := hbeg; omega) (by omega) ?_
  intro p hp1 hp2 hp3
  rw [← sW_b]
  show WP _ _ _ _ 115 [.ref b, .int (nI ac), .int (nI k), .int (nI (ac >>> 4 &&& 15)), .int (nI (ac &&& 15)), .int (nI 1), .int (nI 0)] [] (sW b pre (pts ^^^ 1 <<< (ac >>> 4 &&& 15)) edg nr rt sc wf ws (bsz + 1) (if k = 99 then bop + 1 else bop) (inA bbg p bsz (if 0 < mxS (pts ^^^ 1 <<< (ac >>> 4 &&& 15)) (sc (ac >>> 4 &&& 15)) 9 then mxS (pts ^^^ 1 <<< (ac >>> 4 &&& 15)) (sc (ac >>> 4 &&& 15)) 9 else rt (ac >>> 4 &&& 15))) (inA ben p bsz k) suf)
  refine wq_aload_n rfl rfl ?_
  refine wq_getfield (v := .ref (b + 3)) rfl (sW_o0 hb) rfl ?_
  refine wq_iload_n rfl rfl ?_
  refine wq_virt (b := b + 3) (a := [.int (nI (ac >>> 4 &&& 15))]) (rest := []) rfl rfl rfl rfl rfl (sW_o3 hb) ?_
  rw [sW_k]
  refine r_Kin_go (sW_lk hb) (by omega) ?_
  rw [← sW_k]
  show WP _ _ _ _ 123 [.ref b, .int (nI ac), .int (nI k), .int (nI (ac >>> 4 &&& 15)), .int (nI (ac &&& 15)), .int (nI 1), .int (nI 0)] [] (sW b pre (pts ^^^ 1 <<< (ac >>> 4 &&& 15)) edg nr (uN' rt (ac >>> 4 &&& 15) 0) (kz sc (ac >>> 4 &&& 15) 9) wf ws (bsz + 1) (if k = 99 then bop + 1 else bop) (inA bbg p bsz (if 0 < mxS (pts ^^^ 1 <<< (ac >>> 4 &&& 15)) (sc (ac >>> 4 &&& 15)) 9 then mxS (pts ^^^ 1 <<< (ac >>> 4 &&& 15)) (sc (ac >>> 4 &&& 15)) 9 else rt (ac >>> 4 &&& 15))) (inA ben p bsz k) suf)
  refine wq_goto rfl ?_
  refine wq_vret rfl rfl ?_
  exact hQ p hp1 hp2 hp3
