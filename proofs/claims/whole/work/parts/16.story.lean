/-! the reference's story -/
def K2 (f : Nat → Nat → Nat) : Nat → Nat := fun k => f (k / 9) (k % 9)
theorem K2_at {f : Nat → Nat → Nat} {p q : Nat} (hq : q < 9) : K2 f (9 * p + q) = f p q := by
  unfold K2
  have e1 : (9 * p + q) / 9 = p := by omega
  have e2 : (9 * p + q) % 9 = q := by omega
  rw [e1, e2]
theorem K2_eta (g : Nat → Nat) : g = K2 fun x y => g (9 * x + y) := by
  funext k
  unfold K2
  congr 1
  omega
/-- both ways -/
def sK (f : Nat → Nat → Nat) (p q v : Nat) : Nat → Nat → Nat := fun x y => if (x = p ∧ y = q) ∨ (x = q ∧ y = p) then v else f x y
theorem K2_set {f : Nat → Nat → Nat} {p q v : Nat} (hp : p < 9) (hq : q < 9) : uN' (uN' (K2 f) (9 * p + q) v) (9 * q + p) v = K2 (sK f p q v) := by
  funext k
  unfold uN' K2 sK
  by_cases h1 : k = 9 * q + p
  · have e1 : k / 9 = q := by omega
    have e2 : k % 9 = p := by omega
    rw [if_pos h1, e1, e2, if_pos (Or.inr ⟨rfl, rfl⟩)]
  · by_cases h2 : k = 9 * p + q
    · have e3 : (9 * p + q) / 9 = p := by omega
      have e4 : (9 * p + q) % 9 = q := by omega
      subst h2
      simp [e3, e4]
    · have h3 : ¬ ((k / 9 = p ∧ k % 9 = q) ∨ (k / 9 = q ∧ k % 9 = p)) := by omega
      simp [h1, h2, h3]
def mS (b : Nat) (pre : mH) (F : Nat → Nat) (G : Nat → Nat → Nat) (th pcs brs : Nat) (be po ro : Nat → Nat) (kf : Nat → Nat → Nat) (bg en : Nat → Nat) : mH :=
  mW b pre (uN' (uN' (uN' F 8 th) 11 pcs) 16 brs) (uG (uG (uG (uG (uG (uG G 9 be) 10 po) 12 ro) 13 (K2 kf)) 14 bg) 15 en)
theorem mS_eta {b : Nat} {pre : mH} {F : Nat → Nat} {G : Nat → Nat → Nat} : mW b pre F G = mS b pre F G (F 8) (F 11) (F 16) (G 9) (G 10) (G 12) (fun x y => G 13 (9 * x + y)) (G 14) (G 15) := by
  unfold mS
  rw [← K2_eta (G 13)]
  rfl
section MS
variable {b : Nat} {pre : mH} {F : Nat → Nat} {G : Nat → Nat → Nat} {th pcs brs : Nat} {be po ro bg en : Nat → Nat} {kf : Nat → Nat → Nat}
theorem mS_o (hb : pre.length = b) : (mS b pre F G th pcs brs be po ro kf bg en)[b]? = some (.inr (8, mFs b (uN' (uN' (uN' F 8 th) 11 pcs) 16 brs))) := mW_o hb
theorem mS_s0 (hb : pre.length = b) {v : Nat} : (mS b pre F G th pcs brs be po ro kf bg en).set b (.inr (8, (mFs b (uN' (uN' (uN' F 8 th) 11 pcs) 16 brs)).set 0 (.int (nI v)))) = mS b pre (uN' F 0 v) G th pcs brs be po ro kf bg en := (mW_s0 hb).trans rfl
theorem mS_a1 (hb : pre.length = b) : (mS b pre F G th pcs brs be po ro kf bg en)[b + 1]? = some (.inl (1, 200, .inl (nA (G 1)))) := mW_a1 hb
theorem mS_t1 (hb : pre.length = b) {g : Nat → Nat} : (mS b pre F G th pcs brs be po ro kf bg en).set (b + 1) (.inl (1, 200, .inl (nA g))) = mS b pre F (uG G 1 g) th pcs brs be po ro kf bg en := (mW_t1 hb).trans rfl
theorem mS_s2 (hb : pre.length = b) {v : Nat} : (mS b pre F G th pcs brs be po ro kf bg en).set b (.inr (8, (mFs b (uN' (uN' (uN' F 8 th) 11 pcs) 16 brs)).set 2 (.int (nI v)))) = mS b pre (uN' F 2 v) G th pcs brs be po ro kf bg en := (mW_s2 hb).trans rfl
theorem mS_a3 (hb : pre.length = b) : (mS b pre F G th pcs brs be po ro kf bg en)[b + 2]? = some (.inl (0, 41, .inl (nA (G 3)))) := mW_a3 hb
theorem mS_t3 (hb : pre.length = b) {g : Nat → Nat} : (mS b pre F G th pcs brs be po ro kf bg en).set (b + 2) (.inl (0, 41, .inl (nA g))) = mS b pre F (uG G 3 g) th pcs brs be po ro kf bg en := (mW_t3 hb).trans rfl
theorem mS_a4 (hb : pre.length = b) : (mS b pre F G th pcs brs be po ro kf bg en)[b + 3]? = some (.inl (0, 246, .inl (nA (G 4)))) := mW_a4 hb
theorem mS_t4 (hb : pre.length = b) {g : Nat → Nat} : (mS b pre F G th pcs brs be po ro kf bg en).set (b + 3) (.inl (0, 246, .inl (nA g))) = mS b pre F (uG G 4 g) th pcs brs be po ro kf bg en := (mW_t4 hb).trans rfl
theorem mS_s5 (hb : pre.length = b) {v : Nat} : (mS b pre F G th pcs brs be po ro kf bg en).set b (.inr (8, (mFs b (uN' (uN' (uN' F 8 th) 11 pcs) 16 brs)).set 5 (.int (nI v)))) = mS b pre (uN' F 5 v) G th pcs brs be po ro kf bg en := (mW_s5 hb).trans rfl
theorem mS_a6 (hb : pre.length = b) : (mS b pre F G th pcs brs be po ro kf bg en)[b + 4]? = some (.inl (0, 82, .inl (nA (G 6)))) := mW_a6 hb
theorem mS_t6 (hb : pre.length = b) {g : Nat → Nat} : (mS b pre F G th pcs brs be po ro kf bg en).set (b + 4) (.inl (0, 82, .inl (nA g))) = mS b pre F (uG G 6 g) th pcs brs be po ro kf bg en := (mW_t6 hb).trans rfl
theorem mS_s7 (hb : pre.length = b) {v : Nat} : (mS b pre F G th pcs brs be po ro kf bg en).set b (.inr (8, (mFs b (uN' (uN' (uN' F 8 th) 11 pcs) 16 brs)).set 7 (.int (nI v)))) = mS b pre (uN' F 7 v) G th pcs brs be po ro kf bg en := (mW_s7 hb).trans rfl
theorem mS_s8 (hb : pre.length = b) {v : Nat} : (mS b pre F G th pcs brs be po ro kf bg en).set b (.inr (8, (mFs b (uN' (uN' (uN' F 8 th) 11 pcs) 16 brs)).set 8 (.int (nI v)))) = mS b pre F G v pcs brs be po ro kf bg en := (mW_s8 hb).trans rfl
theorem mS_a9 (hb : pre.length = b) : (mS b pre F G th pcs brs be po ro kf bg en)[b + 5]? = some (.inl (0, 9, .inl (nA be))) := mW_a9 hb
theorem mS_t9 (hb : pre.length = b) {g : Nat → Nat} : (mS b pre F G th pcs brs be po ro kf bg en).set (b + 5) (.inl (0, 9, .inl (nA g))) = mS b pre F G th pcs brs g po ro kf bg en := (mW_t9 hb).trans rfl
theorem mS_a10 (hb : pre.length = b) : (mS b pre F G th pcs brs be po ro kf bg en)[b + 6]? = some (.inl (0, 9, .inl (nA po))) := mW_a10 hb
theorem mS_t10 (hb : pre.length = b) {g : Nat → Nat} : (mS b pre F G th pcs brs be po ro kf bg en).set (b + 6) (.inl (0, 9, .inl (nA g))) = mS b pre F G th pcs brs be g ro kf bg en := (mW_t10 hb).trans rfl
theorem mS_s11 (hb : pre.length = b) {v : Nat} : (mS b pre F G th pcs brs be po ro kf bg en).set b (.inr (8, (mFs b (uN' (uN' (uN' F 8 th) 11 pcs) 16 brs)).set 11 (.int (nI v)))) = mS b pre F G th v brs be po ro kf bg en := (mW_s11 hb).trans rfl
theorem mS_a12 (hb : pre.length = b) : (mS b pre F G th pcs brs be po ro kf bg en)[b + 7]? = some (.inl (0, 9, .inl (nA ro))) := mW_a12 hb
theorem mS_t12 (hb : pre.length = b) {g : Nat → Nat} : (mS b pre F G th pcs brs be po ro kf bg en).set (b + 7) (.inl (0, 9, .inl (nA g))) = mS b pre F G th pcs brs be po g kf bg en := (mW_t12 hb).trans rfl
theorem mS_a13 (hb : pre.length = b) : (mS b pre F G th pcs brs be po ro kf bg en)[b + 8]? = some (.inl (0, 81, .inl (nA (K2 kf)))) := mW_a13 hb
theorem mS_a14 (hb : pre.length = b) : (mS b pre F G th pcs brs be po ro kf bg en)[b + 9]? = some (.inl (0, 60, .inl (nA bg))) := mW_a14 hb
theorem mS_t14 (hb : pre.length = b) {g : Nat → Nat} : (mS b pre F G th pcs brs be po ro kf bg en).set (b + 9) (.inl (0, 60, .inl (nA g))) = mS b pre F G th pcs brs be po ro kf g en := (mW_t14 hb).trans rfl
theorem mS_a15 (hb : pre.length = b) : (mS b pre F G th pcs brs be po ro kf bg en)[b + 10]? = some (.inl (0, 60, .inl (nA en))) := mW_a15 hb
theorem mS_t15 (hb : pre.length = b) {g : Nat → Nat} : (mS b pre F G th pcs brs be po ro kf bg en).set (b + 10) (.inl (0, 60, .inl (nA g))) = mS b pre F G th pcs brs be po ro kf bg g := (mW_t15 hb).trans rfl
theorem mS_s16 (hb : pre.length = b) {v : Nat} : (mS b pre F G th pcs brs be po ro kf bg en).set b (.inr (8, (mFs b (uN' (uN' (uN' F 8 th) 11 pcs) 16 brs)).set 16 (.int (nI v)))) = mS b pre F G th pcs v be po ro kf bg en := (mW_s16 hb).trans rfl
theorem mS_a17 (hb : pre.length = b) : (mS b pre F G th pcs brs be po ro kf bg en)[b + 11]? = some (.inl (0, 41, .inl (nA (G 17)))) := mW_a17 hb
theorem mS_t17 (hb : pre.length = b) {g : Nat → Nat} : (mS b pre F G th pcs brs be po ro kf bg en).set (b + 11) (.inl (0, 41, .inl (nA g))) = mS b pre F (uG G 17 g) th pcs brs be po ro kf bg en := (mW_t17 hb).trans rfl
theorem mS_s18 (hb : pre.length = b) {v : Nat} : (mS b pre F G th pcs brs be po ro kf bg en).set b (.inr (8, (mFs b (uN' (uN' (uN' F 8 th) 11 pcs) 16 brs)).set 18 (.int (nI v)))) = mS b pre (uN' F 18 v) G th pcs brs be po ro kf bg en := (mW_s18 hb).trans rfl
theorem mS_a19 (hb : pre.length = b) : (mS b pre F G th pcs brs be po ro kf bg en)[b + 12]? = some (.inl (0, 60, .inl (nA (G 19)))) := mW_a19 hb
theorem mS_t19 (hb : pre.length = b) {g : Nat → Nat} : (mS b pre F G th pcs brs be po ro kf bg en).set (b + 12) (.inl (0, 60, .inl (nA g))) = mS b pre F (uG G 19 g) th pcs brs be po ro kf bg en := (mW_t19 hb).trans rfl
theorem mS_a20 (hb : pre.length = b) : (mS b pre F G th pcs brs be po ro kf bg en)[b + 13]? = some (.inl (0, 60, .inl (nA (G 20)))) := mW_a20 hb
theorem mS_t20 (hb : pre.length = b) {g : Nat → Nat} : (mS b pre F G th pcs brs be po ro kf bg en).set (b + 13) (.inl (0, 60, .inl (nA g))) = mS b pre F (uG G 20 g) th pcs brs be po ro kf bg en := (mW_t20 hb).trans rfl
theorem mS_s21 (hb : pre.length = b) {v : Nat} : (mS b pre F G th pcs brs be po ro kf bg en).set b (.inr (8, (mFs b (uN' (uN' (uN' F 8 th) 11 pcs) 16 brs)).set 21 (.int (nI v)))) = mS b pre (uN' F 21 v) G th pcs brs be po ro kf bg en := (mW_s21 hb).trans rfl
end MS
theorem r_S_kinOf {d b : Nat} {pre : mH} {F : Nat → Nat} {G : Nat → Nat → Nat} {th pcs brs : Nat} {be po ro bg en : Nat → Nat} {kf : Nat → Nat → Nat} {Q : Option Value → mH → Prop} (hb : pre.length = b) {p q : Nat} (hp : p < 9) (hq : q < 9) (hQ : Q (some (.int (nI (kf p q)))) (mS b pre F G th pcs brs be po ro kf bg en)) : Rn mprog (d + 1) n_M_kinOf [.ref b, .int (nI p), .int (nI q)] (mS b pre F G th pcs brs be po ro kf bg en) Q := r_M_kinOf hb hp hq (by have e : K2 kf (9 * p + q) = kf p q := K2_at hq; show Q (some (.int (nI (K2 kf (9 * p + q))))) _; rw [e]; exact hQ)
theorem r_S_makesKin {d b : Nat} {pre : mH} {F : Nat → Nat} {G : Nat → Nat → Nat} {th pcs brs : Nat} {be po ro bg en : Nat → Nat} {kf : Nat → Nat → Nat} {Q : Option Value → mH → Prop} (hb : pre.length = b) {p q v : Nat} (hp : p < 9) (hq : q < 9) (hQ : Q none (mS b pre F G th pcs brs be po ro ((sK kf p q v)) bg en)) : Rn mprog (d + 1) n_M_makesKin [.ref b, .int (nI p), .int (nI q), .int (nI v)] (mS b pre F G th pcs brs be po ro kf bg en) Q := r_M_makesKin hb hp hq (by have e := K2_set (f := kf) (v := v) hp hq; unfold mS at hQ; rw [← e] at hQ; exact hQ)
theorem r_S_ends {d b : Nat} {pre : mH} {F : Nat → Nat} {G : Nat → Nat → Nat} {th pcs brs : Nat} {be po ro bg en : Nat → Nat} {kf : Nat → Nat → Nat} {Q : Option Value → mH → Prop} (hb : pre.length = b) {x y : Nat} (hn : brs < 60) (hQ : Q none (mS b pre F G th pcs ((brs + 1)) be po ro kf ((uN' bg brs x)) ((uN' en brs y)))) : Rn mprog (d + 1) n_M_ends [.ref b, .int (nI x), .int (nI y)] (mS b pre F G th pcs brs be po ro kf bg en) Q := r_M_ends hb hn hQ
theorem l_S_freePiece {d b : Nat} {pre : mH} {F : Nat → Nat} {G : Nat → Nat → Nat} {th pcs brs : Nat} {be po ro bg en : Nat → Nat} {kf : Nat → Nat → Nat} {Q : Option Value → mH → Prop} (hb : pre.length = b) (hp : pcs < 512) (hQ : ∀ l, l ≤ 9 → pcs.testBit l = false → (∀ j, j < l → pcs.testBit j = true) → Q (some (.int (nI l))) (mS b pre F G th pcs brs be po ro kf bg en)) : ∀ (n i : Nat), i + n = 10 → i ≤ 9 → (∀ j, j < i → pcs.testBit j = true) → WP (Rn mprog (d + 1)) k_M_freePiece (some .int) Q 2 [.ref b, .int (nI i)] [] (mS b pre F G th pcs brs be po ro kf bg en) := by
  intro n
  induction n with
  | zero => intro i h1 h2; omega
  | succ n ih =>
    intro i h1 h2 hj
    refine wq_aload_n rfl rfl ?_
    refine wq_getfield (v := .int (nI pcs)) rfl (mS_o hb) rfl ?_
    refine wq_iload_n rfl rfl ?_
    refine wq_stat (a := [.int (nI pcs), .int (nI i)]) (rest := []) rfl rfl rfl rfl rfl ?_
    refine r_M_has (by omega) (by omega) (fun c7 => ?_) (fun c7 => ?_)
    · skip
      show WP _ _ _ _ 10 [.ref b, .int (nI i)] [.int (nI 1)] (mS b pre F G th pcs brs be po ro kf bg en)
      refine wq_if_eq rfl (fun c => absurd c (by decide)) (fun _ => ?_)
      refine wn_inc (lv' := [.ref b, .int (nI (i + 1))]) rfl rfl rfl ?_
      refine wq_goto rfl ?_
      have hi9 : i ≠ 9 := by
        intro q
        subst q
        exact absurd (bit_lt (n := 9) hp (Nat.le_refl 9)) (by rw [c7]; decide)
      exact ih (i + 1) (by omega) (by omega) (fun j q => (Nat.lt_or_eq_of_le (Nat.le_of_lt_succ q)).elim (hj j) (fun e => by rw [e]; exact c7))
    · skip
      show WP _ _ _ _ 10 [.ref b, .int (nI i)] [.int (nI 0)] (mS b pre F G th pcs brs be po ro kf bg en)
      refine wq_if_eq rfl (fun _ => ?_) (fun c => absurd c (by decide))
      refine wq_iload_n rfl rfl ?_
      refine wq_iret rfl trivial ?_
      exact hQ i h2 c7 hj
theorem r_S_freePiece {d b : Nat} {pre : mH} {F : Nat → Nat} {G : Nat → Nat → Nat} {th pcs brs : Nat} {be po ro bg en : Nat → Nat} {kf : Nat → Nat → Nat} {Q : Option Value → mH → Prop} (hb : pre.length = b) (hp : pcs < 512) (hQ : ∀ l, l ≤ 9 → pcs.testBit l = false → (∀ j, j < l → pcs.testBit j = true) → Q (some (.int (nI l))) (mS b pre F G th pcs brs be po ro kf bg en)) : Rn mprog (d + 2) n_M_freePiece [.ref b] (mS b pre F G th pcs brs be po ro kf bg en) Q := by
  refine Rn.in rfl rfl rfl ?_
  show WP _ _ _ _ 0 [.ref b, .long 0] [] (mS b pre F G th pcs brs be po ro kf bg en)
  refine wq_iconst (v := nI 0) rfl (by decide) ?_
  refine wq_istore_n (lv' := [.ref b, .int (nI 0)]) rfl rfl rfl ?_
  exact l_S_freePiece hb hp hQ 10 0 rfl (by decide) (fun j q => absurd q (Nat.not_lt_zero j))
def mayB (th : Nat) (be : Nat → Nat) (κ A B : Nat) : Bool := if κ = 0 then !th.testBit A else if κ = 1 then th.testBit A && decide (be A = 0) else if κ = 2 then decide (A ≠ B) && th.testBit A && th.testBit B && !(be A).testBit B else (be A).testBit B
theorem r_S_may {d b : Nat} {pre : mH} {F : Nat → Nat} {G : Nat → Nat → Nat} {th pcs brs : Nat} {be po ro bg en : Nat → Nat} {kf : Nat → Nat → Nat} {Q : Option Value → mH → Prop} (hb : pre.length = b) {cd : Nat} (hcd : cd < 400) (h1 : cd / 10 % 10 < 9) (h2 : cd % 10 < 9) (hth : th < 512) (hbe : ∀ p, p < 9 → be p < 512) (kt : mayB th be (cd / 100) (cd / 10 % 10) (cd % 10) = true → Q (some (.int (nI 1))) (mS b pre F G th pcs brs be po ro kf bg en)) (kfl : mayB th be (cd / 100) (cd / 10 % 10) (cd % 10) = false → Q (some (.int (nI 0))) (mS b pre F G th pcs brs be po ro kf bg en)) : Rn mprog (d + 2) n_M_may [.ref b, .int (nI cd)] (mS b pre F G th pcs brs be po ro kf bg en) Q := by
  refine Rn.in rfl rfl rfl ?_
  show WP _ _ _ _ 0 [.ref b, .int (nI cd), .long 0, .long 0] [] (mS b pre F G th pcs brs be po ro kf bg en)
  refine wq_iload_n rfl rfl ?_
  refine wq_stat (a := [.int (nI cd)]) (rest := []) rfl rfl rfl rfl rfl ?_
  refine r_M_oneOf (by omega) ?_
  show WP _ _ _ _ 4 [.ref b, .int (nI cd), .long 0, .long 0] [.int (nI (cd / 10 % 10))] (mS b pre F G th pcs brs be po ro kf bg en)
  refine wq_istore_n (lv' := [.ref b, .int (nI cd), .int (nI (cd / 10 % 10)), .long 0]) rfl rfl rfl ?_
  refine wq_iload_n rfl rfl ?_
  refine wq_stat (a := [.int (nI cd)]) (rest := []) rfl rfl rfl rfl rfl ?_
  refine r_M_otherOf (by omega) ?_
  show WP _ _ _ _ 9 [.ref b, .int (nI cd), .int (nI (cd / 10 % 10)), .long 0] [.int (nI (cd % 10))] (mS b pre F G th pcs brs be po ro kf bg en)
  refine wq_istore_n (lv' := [.ref b, .int (nI cd), .int (nI (cd / 10 % 10)), .int (nI (cd % 10))]) rfl rfl rfl ?_
  refine wq_iload_n rfl rfl ?_
  refine wq_stat (a := [.int (nI cd)]) (rest := []) rfl rfl rfl rfl rfl ?_
  refine r_M_kindOf (by omega) ?_
  show WP _ _ _ _ 14 [.ref b, .int (nI cd), .int (nI (cd / 10 % 10)), .int (nI (cd % 10))] [.int (nI (cd / 100))] (mS b pre F G th pcs brs be po ro kf bg en)
  rcases (show cd / 100 = 0 ∨ cd / 100 = 1 ∨ cd / 100 = 2 ∨ cd / 100 = 3 by omega) with e14 | e14 | e14 | e14
  · refine wq_tsw (t := 40) rfl (by rw [e14]; decide) ?_
    refine wq_aload_n rfl rfl ?_
    refine wq_getfield (v := .int (nI th)) rfl (mS_o hb) rfl ?_
    refine wq_iload_n rfl rfl ?_
    refine wq_stat (a := [.int (nI th), .int (nI (cd / 10 % 10))]) (rest := []) rfl rfl rfl rfl rfl ?_
    refine r_M_has (by omega) (by omega) (fun c45 => ?_) (fun c45 => ?_)
    · skip
      show WP _ _ _ _ 48 [.ref b, .int (nI cd), .int (nI (cd / 10 % 10)), .int (nI (cd % 10))] [.int (nI 1)] (mS b pre F G th pcs brs be po ro kf bg en)
      refine wq_if_ne rfl (fun _ => ?_) (fun c => absurd c (by decide))
      refine wq_iconst (v := nI 0) rfl (by decide) ?_
      refine wq_iret rfl (by first | exact Or.inl rfl | exact Or.inr rfl) ?_
      exact kfl (by simp [mayB, e14, c45])
    · skip
      show WP _ _ _ _ 48 [.ref b, .int (nI cd), .int (nI (cd / 10 % 10)), .int (nI (cd % 10))] [.int (nI 0)] (mS b pre F G th pcs brs be po ro kf bg en)
      refine wq_if_ne rfl (fun c => absurd c (by decide)) (fun _ => ?_)
      refine wq_iconst (v := nI 1) rfl (by decide) ?_
      refine wq_goto rfl ?_
      refine wq_iret rfl (by first | exact Or.inl rfl | exact Or.inr rfl) ?_
      exact kt (by simp [mayB, e14, c45])
  · refine wq_tsw (t := 57) rfl (by rw [e14]; decide) ?_
    refine wq_aload_n rfl rfl ?_
    refine wq_getfield (v := .int (nI th)) rfl (mS_o hb) rfl ?_
    refine wq_iload_n rfl rfl ?_
    refine wq_stat (a := [.int (nI th), .int (nI (cd / 10 % 10))]) (rest := []) rfl rfl rfl rfl rfl ?_
    refine r_M_has (by omega) (by omega) (fun c62 => ?_) (fun c62 => ?_)
    · skip
      show WP _ _ _ _ 65 [.ref b, .int (nI cd), .int (nI (cd / 10 % 10)), .int (nI (cd % 10))] [.int (nI 1)] (mS b pre F G th pcs brs be po ro kf bg en)
      refine wq_if_eq rfl (fun c => absurd c (by decide)) (fun _ => ?_)
      refine wq_aload_n rfl rfl ?_
      refine wq_getfield (v := .ref (b + 5)) rfl (mS_o hb) rfl ?_
      refine wq_iload_n rfl rfl ?_
      refine wn_iaload (g := be) rfl (mS_a9 hb) (by omega) (by decide) ?_
      have hbx := hbe _ h1
      refine wn_if_ne rfl (by omega) (fun c74 => ?_) (fun c74 => ?_)
      · skip
        refine wq_iconst (v := nI 0) rfl (by decide) ?_
        refine wq_iret rfl (by first | exact Or.inl rfl | exact Or.inr rfl) ?_
        exact kfl (by simp [mayB, e14, c62, c74])
      · skip
        refine wq_iconst (v := nI 1) rfl (by decide) ?_
        refine wq_goto rfl ?_
        refine wq_iret rfl (by first | exact Or.inl rfl | exact Or.inr rfl) ?_
        exact kt (by simp [mayB, e14, c62, c74])
    · skip
      show WP _ _ _ _ 65 [.ref b, .int (nI cd), .int (nI (cd / 10 % 10)), .int (nI (cd % 10))] [.int (nI 0)] (mS b pre F G th pcs brs be po ro kf bg en)
      refine wq_if_eq rfl (fun _ => ?_) (fun c => absurd c (by decide))
      refine wq_iconst (v := nI 0) rfl (by decide) ?_
      refine wq_iret rfl (by first | exact Or.inl rfl | exact Or.inr rfl) ?_
      exact kfl (by simp [mayB, e14, c62])
  · refine wq_tsw (t := 83) rfl (by rw [e14]; decide) ?_
    refine wq_iload_n rfl rfl ?_
    refine wq_iload_n rfl rfl ?_
    refine wn_ic_eq rfl (by omega) (by omega) (fun c85 => ?_) (fun c85 => ?_)
    · skip
      refine wq_iconst (v := nI 0) rfl (by decide) ?_
      refine wq_iret rfl (by first | exact Or.inl rfl | exact Or.inr rfl) ?_
      exact kfl (by simp [mayB, e14, c85])
    · skip
      refine wq_aload_n rfl rfl ?_
      refine wq_getfield (v := .int (nI th)) rfl (mS_o hb) rfl ?_
      refine wq_iload_n rfl rfl ?_
      refine wq_stat (a := [.int (nI th), .int (nI (cd / 10 % 10))]) (rest := []) rfl rfl rfl rfl rfl ?_
      refine r_M_has (by omega) (by omega) (fun c93 => ?_) (fun c93 => ?_)
      · skip
        show WP _ _ _ _ 96 [.ref b, .int (nI cd), .int (nI (cd / 10 % 10)), .int (nI (cd % 10))] [.int (nI 1)] (mS b pre F G th pcs brs be po ro kf bg en)
        refine wq_if_eq rfl (fun c => absurd c (by decide)) (fun _ => ?_)
        refine wq_aload_n rfl rfl ?_
        refine wq_getfield (v := .int (nI th)) rfl (mS_o hb) rfl ?_
        refine wq_iload_n rfl rfl ?_
        refine wq_stat (a := [.int (nI th), .int (nI (cd % 10))]) (rest := []) rfl rfl rfl rfl rfl ?_
        refine r_M_has (by omega) (by omega) (fun c104 => ?_) (fun c104 => ?_)
        · skip
          show WP _ _ _ _ 107 [.ref b, .int (nI cd), .int (nI (cd / 10 % 10)), .int (nI (cd % 10))] [.int (nI 1)] (mS b pre F G th pcs brs be po ro kf bg en)
          refine wq_if_eq rfl (fun c => absurd c (by decide)) (fun _ => ?_)
          refine wq_aload_n rfl rfl ?_
          refine wq_getfield (v := .ref (b + 5)) rfl (mS_o hb) rfl ?_
          refine wq_iload_n rfl rfl ?_
          refine wn_iaload (g := be) rfl (mS_a9 hb) (by omega) (by decide) ?_
          refine wq_iload_n rfl rfl ?_
          have hbx := hbe _ h1
          refine wq_stat (a := [.int (nI (be (cd / 10 % 10))), .int (nI (cd % 10))]) (rest := []) rfl rfl rfl rfl rfl ?_
          refine r_M_has (by omega) (by omega) (fun c117 => ?_) (fun c117 => ?_)
          · skip
            show WP _ _ _ _ 120 [.ref b, .int (nI cd), .int (nI (cd / 10 % 10)), .int (nI (cd % 10))] [.int (nI 1)] (mS b pre F G th pcs brs be po ro kf bg en)
            refine wq_if_ne rfl (fun _ => ?_) (fun c => absurd c (by decide))
            refine wq_iconst (v := nI 0) rfl (by decide) ?_
            refine wq_iret rfl (by first | exact Or.inl rfl | exact Or.inr rfl) ?_
            exact kfl (by simp [mayB, e14, c85, c93, c104, c117])
          · skip
            show WP _ _ _ _ 120 [.ref b, .int (nI cd), .int (nI (cd / 10 % 10)), .int (nI (cd % 10))] [.int (nI 0)] (mS b pre F G th pcs brs be po ro kf bg en)
            refine wq_if_ne rfl (fun c => absurd c (by decide)) (fun _ => ?_)
            refine wq_iconst (v := nI 1) rfl (by decide) ?_
            refine wq_goto rfl ?_
            refine wq_iret rfl (by first | exact Or.inl rfl | exact Or.inr rfl) ?_
            exact kt (by simp [mayB, e14, c85, c93, c104, c117])
        · skip
          show WP _ _ _ _ 107 [.ref b, .int (nI cd), .int (nI (cd / 10 % 10)), .int (nI (cd % 10))] [.int (nI 0)] (mS b pre F G th pcs brs be po ro kf bg en)
          refine wq_if_eq rfl (fun _ => ?_) (fun c => absurd c (by decide))
          refine wq_iconst (v := nI 0) rfl (by decide) ?_
          refine wq_iret rfl (by first | exact Or.inl rfl | exact Or.inr rfl) ?_
          exact kfl (by simp [mayB, e14, c85, c93, c104])
      · skip
        show WP _ _ _ _ 96 [.ref b, .int (nI cd), .int (nI (cd / 10 % 10)), .int (nI (cd % 10))] [.int (nI 0)] (mS b pre F G th pcs brs be po ro kf bg en)
        refine wq_if_eq rfl (fun _ => ?_) (fun c => absurd c (by decide))
        refine wq_iconst (v := nI 0) rfl (by decide) ?_
        refine wq_iret rfl (by first | exact Or.inl rfl | exact Or.inr rfl) ?_
        exact kfl (by simp [mayB, e14, c85, c93])
  · refine wq_tsw (t := 129) rfl (by rw [e14]; decide) ?_
    refine wq_aload_n rfl rfl ?_
    refine wq_getfield (v := .ref (b + 5)) rfl (mS_o hb) rfl ?_
    refine wq_iload_n rfl rfl ?_
    refine wn_iaload (g := be) rfl (mS_a9 hb) (by omega) (by decide) ?_
    refine wq_iload_n rfl rfl ?_
    have hbx := hbe _ h1
    refine wq_stat (a := [.int (nI (be (cd / 10 % 10))), .int (nI (cd % 10))]) (rest := []) rfl rfl rfl rfl rfl ?_
    refine r_M_has (by omega) (by omega) (fun c136 => ?_) (fun c136 => ?_)
    · skip
      show WP _ _ _ _ 139 [.ref b, .int (nI cd), .int (nI (cd / 10 % 10)), .int (nI (cd % 10))] [.int (nI 1)] (mS b pre F G th pcs brs be po ro kf bg en)
      refine wq_iret rfl (by first | exact Or.inl rfl | exact Or.inr rfl) ?_
      exact kt (by simp [mayB, e14, c136])
    · skip
      show WP _ _ _ _ 139 [.ref b, .int (nI cd), .int (nI (cd / 10 % 10)), .int (nI (cd % 10))] [.int (nI 0)] (mS b pre F G th pcs brs be po ro kf bg en)
      refine wq_iret rfl (by first | exact Or.inl rfl | exact Or.inr rfl) ?_
      exact kfl (by simp [mayB, e14, c136])
/-- the greatest number since which a piece is kin with one of the others -/
def mxK (pcs : Nat) (r : Nat → Nat) (its : Nat) : Nat → Nat
  | 0 => 0
  | i + 1 => if pcs.testBit i = true ∧ i ≠ its ∧ mxK pcs r its i < r i then r i else mxK pcs r its i
theorem mxK_t {pcs its i : Nat} {r : Nat → Nat} (h1 : pcs.testBit i = true) (h2 : i ≠ its) (h3 : mxK pcs r its i < r i) : mxK pcs r its (i + 1) = r i := if_pos ⟨h1, h2, h3⟩
theorem mxK_f {pcs its i : Nat} {r : Nat → Nat} (h : ¬ (pcs.testBit i = true ∧ i ≠ its ∧ mxK pcs r its i < r i)) : mxK pcs r its (i + 1) = mxK pcs r its i := if_neg h
theorem mxK_le {pcs its m : Nat} {r : Nat → Nat} (h : ∀ q, q < 9 → r q ≤ m) : ∀ i, i ≤ 9 → mxK pcs r its i ≤ m
  | 0, _ => Nat.zero_le _
  | i + 1, hi => by
    unfold mxK
    split
    · exact h i (by omega)
    · exact mxK_le h i (by omega)
theorem l_S_goes {d b : Nat} {pre : mH} {F : Nat → Nat} {G : Nat → Nat → Nat} {th pcs brs : Nat} {be po ro bg en : Nat → Nat} {kf : Nat → Nat → Nat} {Q : Option Value → mH → Prop} (hb : pre.length = b) {its num : Nat} (hits : its < 9) (hp : pcs < 512) (hbr : brs < 60) (hk : ∀ q, q < 9 → kf its q < 1000) (hro : ro its < 1000) (hQ : Q none (mS b pre F G th (nd pcs (1 <<< its)) (brs + 1) be po ro kf (uN' bg brs (if mxK pcs (kf its) its 9 = 0 then ro its else mxK pcs (kf its) its 9)) (uN' en brs num))) : ∀ (n i : Nat), i + n = 9 → WP (Rn mprog (d + 1)) k_M_goes none Q 5 [.ref b, .int (nI its), .int (nI num), .int (nI (mxK pcs (kf its) its i)), .int (nI i)] [] (mS b pre F G th pcs brs be po ro kf bg en) := by
  intro n
  induction n with
  | zero =>
    intro i h1
    have hi : i = 9 := by omega
    subst hi
    have hm := mxK_le (pcs := pcs) (its := its) (m := 999) (r := kf its) (fun q hq => by have := hk q hq; omega) 9 (Nat.le_refl 9)
    have hs9 := sh_lt (n := 9) hits
    refine wq_iload rfl rfl ?_
    refine wq_bipush (v := nI 9) rfl (by decide) ?_
    refine wq_ic_ge rfl (fun _ => ?_) (fun c => absurd c (by decide))
    refine wq_aload_n rfl rfl ?_
    refine wq_iload_n rfl rfl ?_
    refine wn_if_ne rfl (by omega) (fun c61 => ?_) (fun c61 => ?_)
    · skip
      refine wq_iload_n rfl rfl ?_
      refine wq_iload_n rfl rfl ?_
      refine wq_virt (b := b) (a := [.int (nI (mxK pcs (kf its) its 9)), .int (nI num)]) (rest := []) rfl rfl rfl rfl rfl (mS_o hb) ?_
      refine r_S_ends hb (by omega) ?_
      show WP _ _ _ _ 78 [.ref b, .int (nI its), .int (nI num), .int (nI (mxK pcs (kf its) its 9)), .int (nI 9)] [] (mS b pre F G th pcs (brs + 1) be po ro kf (uN' bg brs (mxK pcs (kf its) its 9)) (uN' en brs num))
      refine wq_aload_n rfl rfl ?_
      refine wq_dup rfl rfl ?_
      refine wq_getfield (v := .int (nI pcs)) rfl (mS_o hb) rfl ?_
      refine wq_iconst (v := nI 1) rfl (by decide) ?_
      refine wq_iload_n rfl rfl ?_
      refine wn_ishl rfl (by omega) (by omega) ?_
      refine wq_iconst (v := (-1)) rfl (by decide) ?_
      refine wq_ixor (v := (nI (1 <<< its) ^^^ (-1))) rfl rfl ?_
      refine wn_andn rfl ?_
      refine wq_putfield (h' := mS b pre F G th (nd pcs (1 <<< its)) (brs + 1) be po ro kf (uN' bg brs (mxK pcs (kf its) its 9)) (uN' en brs num)) rfl (mS_o hb) rfl (mS_s11 hb) ?_
      refine wq_vret rfl rfl ?_
      first | (rw [if_pos c61] at hQ; exact hQ) | (rw [if_neg c61] at hQ; exact hQ)
    · skip
      refine wq_aload_n rfl rfl ?_
      refine wq_getfield (v := .ref (b + 7)) rfl (mS_o hb) rfl ?_
      refine wq_iload_n rfl rfl ?_
      refine wn_iaload (g := ro) rfl (mS_a12 hb) (by omega) (by decide) ?_
      refine wq_goto rfl ?_
      refine wq_iload_n rfl rfl ?_
      refine wq_virt (b := b) (a := [.int (nI (ro its)), .int (nI num)]) (rest := []) rfl rfl rfl rfl rfl (mS_o hb) ?_
      refine r_S_ends hb (by omega) ?_
      show WP _ _ _ _ 78 [.ref b, .int (nI its), .int (nI num), .int (nI (mxK pcs (kf its) its 9)), .int (nI 9)] [] (mS b pre F G th pcs (brs + 1) be po ro kf (uN' bg brs (ro its)) (uN' en brs num))
      refine wq_aload_n rfl rfl ?_
      refine wq_dup rfl rfl ?_
      refine wq_getfield (v := .int (nI pcs)) rfl (mS_o hb) rfl ?_
      refine wq_iconst (v := nI 1) rfl (by decide) ?_
      refine wq_iload_n rfl rfl ?_
      refine wn_ishl rfl (by omega) (by omega) ?_
      refine wq_iconst (v := (-1)) rfl (by decide) ?_
      refine wq_ixor (v := (nI (1 <<< its) ^^^ (-1))) rfl rfl ?_
      refine wn_andn rfl ?_
      refine wq_putfield (h' := mS b pre F G th (nd pcs (1 <<< its)) (brs + 1) be po ro kf (uN' bg brs (ro its)) (uN' en brs num)) rfl (mS_o hb) rfl (mS_s11 hb) ?_
      refine wq_vret rfl rfl ?_
      first | (rw [if_pos c61] at hQ; exact hQ) | (rw [if_neg c61] at hQ; exact hQ)
  | succ n ih =>
    intro i h1
    have hm := mxK_le (pcs := pcs) (its := its) (m := 999) (r := kf its) (fun q hq => by have := hk q hq; omega) i (by omega)
    have hki := hk i (by omega)
    refine wq_iload rfl rfl ?_
    refine wq_bipush (v := nI 9) rfl (by decide) ?_
    refine wn_ic_ge rfl (by omega) (by omega) (fun c9 => absurd c9 (by omega)) (fun c9 => ?_)
    refine wq_aload_n rfl rfl ?_
    refine wq_getfield (v := .int (nI pcs)) rfl (mS_o hb) rfl ?_
    refine wq_iload rfl rfl ?_
    refine wq_stat (a := [.int (nI pcs), .int (nI i)]) (rest := []) rfl rfl rfl rfl rfl ?_
    refine r_M_has (by omega) (by omega) (fun c18 => ?_) (fun c18 => ?_)
    · skip
      show WP _ _ _ _ 21 [.ref b, .int (nI its), .int (nI num), .int (nI (mxK pcs (kf its) its i)), .int (nI i)] [.int (nI 1)] (mS b pre F G th pcs brs be po ro kf bg en)
      refine wq_if_eq rfl (fun c => absurd c (by decide)) (fun _ => ?_)
      refine wq_iload rfl rfl ?_
      refine wq_iload_n rfl rfl ?_
      refine wn_ic_eq rfl (by omega) (by omega) (fun c27 => ?_) (fun c27 => ?_)
      · skip
        refine wq_iload_n rfl rfl ?_
        refine wq_istore_n (lv' := [.ref b, .int (nI its), .int (nI num), .int (nI (mxK pcs (kf its) its i)), .int (nI i)]) rfl rfl rfl ?_
        refine wn_inc (lv' := [.ref b, .int (nI its), .int (nI num), .int (nI (mxK pcs (kf its) its i)), .int (nI (i + 1))]) rfl rfl rfl ?_
        refine wq_goto rfl ?_
        have e := mxK_f (pcs := pcs) (its := its) (i := i) (r := kf its) (fun q => by exact q.2.1 c27)
        rw [← e]
        exact ih (i + 1) (by omega)
      · skip
        refine wq_aload_n rfl rfl ?_
        refine wq_iload_n rfl rfl ?_
        refine wq_iload rfl rfl ?_
        refine wq_virt (b := b) (a := [.int (nI its), .int (nI i)]) (rest := []) rfl rfl rfl rfl rfl (mS_o hb) ?_
        refine r_S_kinOf hb (by omega) (by omega) ?_
        show WP _ _ _ _ 37 [.ref b, .int (nI its), .int (nI num), .int (nI (mxK pcs (kf its) its i)), .int (nI i)] [.int (nI (kf its i))] (mS b pre F G th pcs brs be po ro kf bg en)
        refine wq_iload_n rfl rfl ?_
        refine wn_ic_le rfl (by omega) (by omega) (fun c38 => ?_) (fun c38 => ?_)
        · skip
          refine wq_iload_n rfl rfl ?_
          refine wq_istore_n (lv' := [.ref b, .int (nI its), .int (nI num), .int (nI (mxK pcs (kf its) its i)), .int (nI i)]) rfl rfl rfl ?_
          refine wn_inc (lv' := [.ref b, .int (nI its), .int (nI num), .int (nI (mxK pcs (kf its) its i)), .int (nI (i + 1))]) rfl rfl rfl ?_
          refine wq_goto rfl ?_
          have e := mxK_f (pcs := pcs) (its := its) (i := i) (r := kf its) (fun q => by have := q.2.2; omega)
          rw [← e]
          exact ih (i + 1) (by omega)
        · skip
          refine wq_aload_n rfl rfl ?_
          refine wq_iload_n rfl rfl ?_
          refine wq_iload rfl rfl ?_
          refine wq_virt (b := b) (a := [.int (nI its), .int (nI i)]) (rest := []) rfl rfl rfl rfl rfl (mS_o hb) ?_
          refine r_S_kinOf hb (by omega) (by omega) ?_
          show WP _ _ _ _ 48 [.ref b, .int (nI its), .int (nI num), .int (nI (mxK pcs (kf its) its i)), .int (nI i)] [.int (nI (kf its i))] (mS b pre F G th pcs brs be po ro kf bg en)
          refine wq_goto rfl ?_
          refine wq_istore_n (lv' := [.ref b, .int (nI its), .int (nI num), .int (nI (kf its i)), .int (nI i)]) rfl rfl rfl ?_
          refine wn_inc (lv' := [.ref b, .int (nI its), .int (nI num), .int (nI (kf its i)), .int (nI (i + 1))]) rfl rfl rfl ?_
          refine wq_goto rfl ?_
          have e := mxK_t (r := kf its) c18 c27 (by omega)
          rw [← e]
          exact ih (i + 1) (by omega)
    · skip
      show WP _ _ _ _ 21 [.ref b, .int (nI its), .int (nI num), .int (nI (mxK pcs (kf its) its i)), .int (nI i)] [.int (nI 0)] (mS b pre F G th pcs brs be po ro kf bg en)
      refine wq_if_eq rfl (fun _ => ?_) (fun c => absurd c (by decide))
      refine wq_iload_n rfl rfl ?_
      refine wq_istore_n (lv' := [.ref b, .int (nI its), .int (nI num), .int (nI (mxK pcs (kf its) its i)), .int (nI i)]) rfl rfl rfl ?_
      refine wn_inc (lv' := [.ref b, .int (nI its), .int (nI num), .int (nI (mxK pcs (kf its) its i)), .int (nI (i + 1))]) rfl rfl rfl ?_
      refine wq_goto rfl ?_
      have e := mxK_f (pcs := pcs) (its := its) (i := i) (r := kf its) (fun q => by exact absurd q.1 (by rw [c18]; decide))
      rw [← e]
      exact ih (i + 1) (by omega)
theorem r_S_goes {d b : Nat} {pre : mH} {F : Nat → Nat} {G : Nat → Nat → Nat} {th pcs brs : Nat} {be po ro bg en : Nat → Nat} {kf : Nat → Nat → Nat} {Q : Option Value → mH → Prop} (hb : pre.length = b) {its num : Nat} (hits : its < 9) (hp : pcs < 512) (hbr : brs < 60) (hk : ∀ q, q < 9 → kf its q < 1000) (hro : ro its < 1000) (hQ : Q none (mS b pre F G th (nd pcs (1 <<< its)) (brs + 1) be po ro kf (uN' bg brs (if mxK pcs (kf its) its 9 = 0 then ro its else mxK pcs (kf its) its 9)) (uN' en brs num))) : Rn mprog (d + 2) n_M_goes [.ref b, .int (nI its), .int (nI num)] (mS b pre F G th pcs brs be po ro kf bg en) Q := by
  refine Rn.in rfl rfl rfl ?_
  show WP _ _ _ _ 0 [.ref b, .int (nI its), .int (nI num), .long 0, .long 0] [] (mS b pre F G th pcs brs be po ro kf bg en)
  refine wq_iconst (v := nI 0) rfl (by decide) ?_
  refine wq_istore_n (lv' := [.ref b, .int (nI its), .int (nI num), .int (nI 0), .long 0]) rfl rfl rfl ?_
  refine wq_iconst (v := nI 0) rfl (by decide) ?_
  refine wq_istore (lv' := [.ref b, .int (nI its), .int (nI num), .int (nI 0), .int (nI 0)]) rfl rfl rfl ?_
  exact l_S_goes hb hits hp hbr hk hro hQ 9 0 rfl
