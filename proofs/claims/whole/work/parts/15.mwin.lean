/-! the reference's window: its object at b, its arrays behind it -/
theorem uG_uG (G : Nat → Nat → Nat) (k : Nat) (g g' : Nat → Nat) : uG (uG G k g) k g' = uG G k g' := by
  funext j
  unfold uG
  by_cases h : j = k <;> simp [h]
theorem uN_uN (g : Nat → Nat) (k v v' : Nat) : uN' (uN' g k v) k v' = uN' g k v' := by
  funext j
  unfold uN'
  by_cases h : j = k <;> simp [h]
def mFs (b : Nat) (F : Nat → Nat) : List Value := [.int (nI (F 0)), .ref (b + 1), .int (nI (F 2)), .ref (b + 2), .ref (b + 3), .int (nI (F 5)), .ref (b + 4), .int (nI (F 7)), .int (nI (F 8)), .ref (b + 5), .ref (b + 6), .int (nI (F 11)), .ref (b + 7), .ref (b + 8), .ref (b + 9), .ref (b + 10), .int (nI (F 16)), .ref (b + 11), .int (nI (F 18)), .ref (b + 12), .ref (b + 13), .int (nI (F 21))]
def mCs (b : Nat) (F : Nat → Nat) (G : Nat → Nat → Nat) : mH := [.inr (8, mFs b F), .inl (1, 200, .inl (nA (G 1))), .inl (0, 41, .inl (nA (G 3))), .inl (0, 246, .inl (nA (G 4))), .inl (0, 82, .inl (nA (G 6))), .inl (0, 9, .inl (nA (G 9))), .inl (0, 9, .inl (nA (G 10))), .inl (0, 9, .inl (nA (G 12))), .inl (0, 81, .inl (nA (G 13))), .inl (0, 60, .inl (nA (G 14))), .inl (0, 60, .inl (nA (G 15))), .inl (0, 41, .inl (nA (G 17))), .inl (0, 60, .inl (nA (G 19))), .inl (0, 60, .inl (nA (G 20)))]
def mW (b : Nat) (pre : mH) (F : Nat → Nat) (G : Nat → Nat → Nat) : mH := pre ++ mCs b F G
section MW
variable {b : Nat} {pre : mH} {F : Nat → Nat} {G : Nat → Nat → Nat} (hb : pre.length = b)
theorem mW_o (hb : pre.length = b) : (mW b pre F G)[b]? = some (.inr (8, mFs b F)) := ap_get0 hb
theorem mW_s0 (hb : pre.length = b) {v : Nat} : (mW b pre F G).set b (.inr (8, (mFs b F).set 0 (.int (nI v)))) = mW b pre (uN' F 0 v) G := ap_set0 hb
theorem mW_a1 (hb : pre.length = b) : (mW b pre F G)[b + 1]? = some (.inl (1, 200, .inl (nA (G 1)))) := ap_get hb
theorem mW_t1 (hb : pre.length = b) {g : Nat → Nat} : (mW b pre F G).set (b + 1) (.inl (1, 200, .inl (nA g))) = mW b pre F (uG G 1 g) := ap_set hb
theorem mW_s2 (hb : pre.length = b) {v : Nat} : (mW b pre F G).set b (.inr (8, (mFs b F).set 2 (.int (nI v)))) = mW b pre (uN' F 2 v) G := ap_set0 hb
theorem mW_a3 (hb : pre.length = b) : (mW b pre F G)[b + 2]? = some (.inl (0, 41, .inl (nA (G 3)))) := ap_get hb
theorem mW_t3 (hb : pre.length = b) {g : Nat → Nat} : (mW b pre F G).set (b + 2) (.inl (0, 41, .inl (nA g))) = mW b pre F (uG G 3 g) := ap_set hb
theorem mW_a4 (hb : pre.length = b) : (mW b pre F G)[b + 3]? = some (.inl (0, 246, .inl (nA (G 4)))) := ap_get hb
theorem mW_t4 (hb : pre.length = b) {g : Nat → Nat} : (mW b pre F G).set (b + 3) (.inl (0, 246, .inl (nA g))) = mW b pre F (uG G 4 g) := ap_set hb
theorem mW_s5 (hb : pre.length = b) {v : Nat} : (mW b pre F G).set b (.inr (8, (mFs b F).set 5 (.int (nI v)))) = mW b pre (uN' F 5 v) G := ap_set0 hb
theorem mW_a6 (hb : pre.length = b) : (mW b pre F G)[b + 4]? = some (.inl (0, 82, .inl (nA (G 6)))) := ap_get hb
theorem mW_t6 (hb : pre.length = b) {g : Nat → Nat} : (mW b pre F G).set (b + 4) (.inl (0, 82, .inl (nA g))) = mW b pre F (uG G 6 g) := ap_set hb
theorem mW_s7 (hb : pre.length = b) {v : Nat} : (mW b pre F G).set b (.inr (8, (mFs b F).set 7 (.int (nI v)))) = mW b pre (uN' F 7 v) G := ap_set0 hb
theorem mW_s8 (hb : pre.length = b) {v : Nat} : (mW b pre F G).set b (.inr (8, (mFs b F).set 8 (.int (nI v)))) = mW b pre (uN' F 8 v) G := ap_set0 hb
theorem mW_a9 (hb : pre.length = b) : (mW b pre F G)[b + 5]? = some (.inl (0, 9, .inl (nA (G 9)))) := ap_get hb
theorem mW_t9 (hb : pre.length = b) {g : Nat → Nat} : (mW b pre F G).set (b + 5) (.inl (0, 9, .inl (nA g))) = mW b pre F (uG G 9 g) := ap_set hb
theorem mW_a10 (hb : pre.length = b) : (mW b pre F G)[b + 6]? = some (.inl (0, 9, .inl (nA (G 10)))) := ap_get hb
theorem mW_t10 (hb : pre.length = b) {g : Nat → Nat} : (mW b pre F G).set (b + 6) (.inl (0, 9, .inl (nA g))) = mW b pre F (uG G 10 g) := ap_set hb
theorem mW_s11 (hb : pre.length = b) {v : Nat} : (mW b pre F G).set b (.inr (8, (mFs b F).set 11 (.int (nI v)))) = mW b pre (uN' F 11 v) G := ap_set0 hb
theorem mW_a12 (hb : pre.length = b) : (mW b pre F G)[b + 7]? = some (.inl (0, 9, .inl (nA (G 12)))) := ap_get hb
theorem mW_t12 (hb : pre.length = b) {g : Nat → Nat} : (mW b pre F G).set (b + 7) (.inl (0, 9, .inl (nA g))) = mW b pre F (uG G 12 g) := ap_set hb
theorem mW_a13 (hb : pre.length = b) : (mW b pre F G)[b + 8]? = some (.inl (0, 81, .inl (nA (G 13)))) := ap_get hb
theorem mW_t13 (hb : pre.length = b) {g : Nat → Nat} : (mW b pre F G).set (b + 8) (.inl (0, 81, .inl (nA g))) = mW b pre F (uG G 13 g) := ap_set hb
theorem mW_a14 (hb : pre.length = b) : (mW b pre F G)[b + 9]? = some (.inl (0, 60, .inl (nA (G 14)))) := ap_get hb
theorem mW_t14 (hb : pre.length = b) {g : Nat → Nat} : (mW b pre F G).set (b + 9) (.inl (0, 60, .inl (nA g))) = mW b pre F (uG G 14 g) := ap_set hb
theorem mW_a15 (hb : pre.length = b) : (mW b pre F G)[b + 10]? = some (.inl (0, 60, .inl (nA (G 15)))) := ap_get hb
theorem mW_t15 (hb : pre.length = b) {g : Nat → Nat} : (mW b pre F G).set (b + 10) (.inl (0, 60, .inl (nA g))) = mW b pre F (uG G 15 g) := ap_set hb
theorem mW_s16 (hb : pre.length = b) {v : Nat} : (mW b pre F G).set b (.inr (8, (mFs b F).set 16 (.int (nI v)))) = mW b pre (uN' F 16 v) G := ap_set0 hb
theorem mW_a17 (hb : pre.length = b) : (mW b pre F G)[b + 11]? = some (.inl (0, 41, .inl (nA (G 17)))) := ap_get hb
theorem mW_t17 (hb : pre.length = b) {g : Nat → Nat} : (mW b pre F G).set (b + 11) (.inl (0, 41, .inl (nA g))) = mW b pre F (uG G 17 g) := ap_set hb
theorem mW_s18 (hb : pre.length = b) {v : Nat} : (mW b pre F G).set b (.inr (8, (mFs b F).set 18 (.int (nI v)))) = mW b pre (uN' F 18 v) G := ap_set0 hb
theorem mW_a19 (hb : pre.length = b) : (mW b pre F G)[b + 12]? = some (.inl (0, 60, .inl (nA (G 19)))) := ap_get hb
theorem mW_t19 (hb : pre.length = b) {g : Nat → Nat} : (mW b pre F G).set (b + 12) (.inl (0, 60, .inl (nA g))) = mW b pre F (uG G 19 g) := ap_set hb
theorem mW_a20 (hb : pre.length = b) : (mW b pre F G)[b + 13]? = some (.inl (0, 60, .inl (nA (G 20)))) := ap_get hb
theorem mW_t20 (hb : pre.length = b) {g : Nat → Nat} : (mW b pre F G).set (b + 13) (.inl (0, 60, .inl (nA g))) = mW b pre F (uG G 20 g) := ap_set hb
theorem mW_s21 (hb : pre.length = b) {v : Nat} : (mW b pre F G).set b (.inr (8, (mFs b F).set 21 (.int (nI v)))) = mW b pre (uN' F 21 v) G := ap_set0 hb
end MW
theorem r_M_kinOf {d b : Nat} {pre : mH} {F : Nat → Nat} {G : Nat → Nat → Nat} {Q : Option Value → mH → Prop} (hb : pre.length = b) {p q : Nat} (hp : p < 9) (hq : q < 9) (hQ : Q (some (.int (nI (G 13 (9 * p + q))))) (mW b pre F G)) : Rn mprog (d + 1) n_M_kinOf [.ref b, .int (nI p), .int (nI q)] (mW b pre F G) Q := by
  refine Rn.in rfl rfl rfl ?_
  show WP _ _ _ _ 0 [.ref b, .int (nI p), .int (nI q)] [] (mW b pre F G)
  refine wq_aload_n rfl rfl ?_
  refine wq_getfield (v := .ref (b + 8)) rfl (mW_o hb) rfl ?_
  refine wq_bipush (v := nI 9) rfl (by decide) ?_
  refine wq_iload_n rfl rfl ?_
  refine wn_imul rfl ?_
  refine wq_iload_n rfl rfl ?_
  refine wn_iadd rfl ?_
  refine wn_iaload (g := (G 13)) rfl (mW_a13 hb) (by omega) (by decide) ?_
  refine wq_iret rfl trivial ?_
  exact hQ
theorem r_M_makesKin {d b : Nat} {pre : mH} {F : Nat → Nat} {G : Nat → Nat → Nat} {Q : Option Value → mH → Prop} (hb : pre.length = b) {p q v : Nat} (hp : p < 9) (hq : q < 9) (hQ : Q none (mW b pre F (uG G 13 (uN' (uN' (G 13) (9 * p + q) v) (9 * q + p) v)))) : Rn mprog (d + 1) n_M_makesKin [.ref b, .int (nI p), .int (nI q), .int (nI v)] (mW b pre F G) Q := by
  refine Rn.in rfl rfl rfl ?_
  show WP _ _ _ _ 0 [.ref b, .int (nI p), .int (nI q), .int (nI v)] [] (mW b pre F G)
  refine wq_aload_n rfl rfl ?_
  refine wq_getfield (v := .ref (b + 8)) rfl (mW_o hb) rfl ?_
  refine wq_bipush (v := nI 9) rfl (by decide) ?_
  refine wq_iload_n rfl rfl ?_
  refine wn_imul rfl ?_
  refine wq_iload_n rfl rfl ?_
  refine wn_iadd rfl ?_
  refine wq_iload_n rfl rfl ?_
  refine wn_iastore (g := (G 13)) (h' := mW b pre F (uG G 13 (uN' ((G 13)) ((9 * p) + q) v))) rfl (mW_a13 hb) (by omega) (by decide) (mW_t13 hb) ?_
  refine wq_aload_n rfl rfl ?_
  refine wq_getfield (v := .ref (b + 8)) rfl (mW_o hb) rfl ?_
  refine wq_bipush (v := nI 9) rfl (by decide) ?_
  refine wq_iload_n rfl rfl ?_
  refine wn_imul rfl ?_
  refine wq_iload_n rfl rfl ?_
  refine wn_iadd rfl ?_
  refine wq_iload_n rfl rfl ?_
  refine wn_iastore (g := (uN' ((G 13)) ((9 * p) + q) v)) (h' := mW b pre F (uG (uG G 13 (uN' ((G 13)) ((9 * p) + q) v)) 13 (uN' ((uN' ((G 13)) ((9 * p) + q) v)) ((9 * q) + p) v))) rfl (mW_a13 hb) (by omega) (by decide) (mW_t13 hb) ?_
  refine wq_vret rfl rfl ?_
  exact (uG_uG _ _ _ _ ▸ hQ)
theorem r_M_ends {d b : Nat} {pre : mH} {F : Nat → Nat} {G : Nat → Nat → Nat} {Q : Option Value → mH → Prop} (hb : pre.length = b) {x y : Nat} (hn : F 16 < 60) (hQ : Q none (mW b pre (uN' F 16 (F 16 + 1)) (uG (uG G 14 (uN' (G 14) (F 16) x)) 15 (uN' (G 15) (F 16) y)))) : Rn mprog (d + 1) n_M_ends [.ref b, .int (nI x), .int (nI y)] (mW b pre F G) Q := by
  refine Rn.in rfl rfl rfl ?_
  show WP _ _ _ _ 0 [.ref b, .int (nI x), .int (nI y)] [] (mW b pre F G)
  refine wq_aload_n rfl rfl ?_
  refine wq_getfield (v := .ref (b + 9)) rfl (mW_o hb) rfl ?_
  refine wq_aload_n rfl rfl ?_
  refine wq_getfield (v := .int (nI (F 16))) rfl (mW_o hb) rfl ?_
  refine wq_iload_n rfl rfl ?_
  refine wn_iastore (g := (G 14)) (h' := mW b pre F (uG G 14 (uN' ((G 14)) (F 16) x))) rfl (mW_a14 hb) (by omega) (by decide) (mW_t14 hb) ?_
  refine wq_aload_n rfl rfl ?_
  refine wq_getfield (v := .ref (b + 10)) rfl (mW_o hb) rfl ?_
  refine wq_aload_n rfl rfl ?_
  refine wq_getfield (v := .int (nI (F 16))) rfl (mW_o hb) rfl ?_
  refine wq_iload_n rfl rfl ?_
  refine wn_iastore (g := (G 15)) (h' := mW b pre F (uG (uG G 14 (uN' ((G 14)) (F 16) x)) 15 (uN' ((G 15)) (F 16) y))) rfl (mW_a15 hb) (by omega) (by decide) (mW_t15 hb) ?_
  refine wq_aload_n rfl rfl ?_
  refine wq_dup rfl rfl ?_
  refine wq_getfield (v := .int (nI (F 16))) rfl (mW_o hb) rfl ?_
  refine wq_iconst (v := nI 1) rfl (by decide) ?_
  refine wn_iadd rfl ?_
  refine wq_putfield (h' := mW b pre (uN' F 16 ((F 16) + 1)) (uG (uG G 14 (uN' ((G 14)) (F 16) x)) 15 (uN' ((G 15)) (F 16) y))) rfl (mW_o hb) rfl (mW_s16 hb) ?_
  refine wq_vret rfl rfl ?_
  exact hQ
