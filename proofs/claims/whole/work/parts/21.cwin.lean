/-! windows of the class; members of the JDK; Net -/
def nW (b : Nat) (pre : mH) (pts : Nat) (edg : Nat) (nr : Nat → Nat) (suf : mH) : mH := pre ++ (.inr (2, [.ref (b + 1), .int (nI pts), .int (nI edg)]) :: .inl (0, 9, .inl (nA nr)) :: suf)
theorem nW_o0 {b : Nat} {pre suf : mH} {pts : Nat} {edg : Nat} {nr : Nat → Nat} (hb : pre.length = b) : (nW b pre pts edg nr suf)[b]? = some (.inr (2, [.ref (b + 1), .int (nI pts), .int (nI edg)])) := ap_get0 hb
theorem nW_s0_1 {b : Nat} {pre suf : mH} {pts : Nat} {edg : Nat} {nr : Nat → Nat} (hb : pre.length = b) {v : Nat} : (nW b pre pts edg nr suf).set (b) (.inr (2, [.ref (b + 1), .int (nI pts), .int (nI edg)].set 1 (.int (nI v)))) = nW b pre v edg nr suf := ap_set0 hb
theorem nW_s0_2 {b : Nat} {pre suf : mH} {pts : Nat} {edg : Nat} {nr : Nat → Nat} (hb : pre.length = b) {v : Nat} : (nW b pre pts edg nr suf).set (b) (.inr (2, [.ref (b + 1), .int (nI pts), .int (nI edg)].set 2 (.int (nI v)))) = nW b pre pts v nr suf := ap_set0 hb
theorem nW_a1 {b : Nat} {pre suf : mH} {pts : Nat} {edg : Nat} {nr : Nat → Nat} (hb : pre.length = b) : (nW b pre pts edg nr suf)[b + 1]? = some (.inl (0, 9, .inl (nA nr))) := ap_get hb
theorem nW_t1 {b : Nat} {pre suf : mH} {pts : Nat} {edg : Nat} {nr : Nat → Nat} (hb : pre.length = b) {g : Nat → Nat} : (nW b pre pts edg nr suf).set (b + 1) (.inl (0, 9, .inl (nA g))) = nW b pre pts edg g suf := ap_set hb
def kW (b : Nat) (pre : mH) (rt : Nat → Nat) (sc : Nat → Nat → Nat) (wf : Nat → Nat) (ws : Nat → Nat) (suf : mH) : mH := pre ++ (.inr (1, [.ref (b + 1), .ref (b + 2), .ref (b + 3), .ref (b + 4)]) :: .inl (0, 9, .inl (nA rt)) :: .inl (0, 81, .inl (nA (K2 sc))) :: .inl (0, 9, .inl (nA wf)) :: .inl (0, 9, .inl (nA ws)) :: suf)
theorem kW_o0 {b : Nat} {pre suf : mH} {rt : Nat → Nat} {sc : Nat → Nat → Nat} {wf : Nat → Nat} {ws : Nat → Nat} (hb : pre.length = b) : (kW b pre rt sc wf ws suf)[b]? = some (.inr (1, [.ref (b + 1), .ref (b + 2), .ref (b + 3), .ref (b + 4)])) := ap_get0 hb
theorem kW_a1 {b : Nat} {pre suf : mH} {rt : Nat → Nat} {sc : Nat → Nat → Nat} {wf : Nat → Nat} {ws : Nat → Nat} (hb : pre.length = b) : (kW b pre rt sc wf ws suf)[b + 1]? = some (.inl (0, 9, .inl (nA rt))) := ap_get hb
theorem kW_t1 {b : Nat} {pre suf : mH} {rt : Nat → Nat} {sc : Nat → Nat → Nat} {wf : Nat → Nat} {ws : Nat → Nat} (hb : pre.length = b) {g : Nat → Nat} : (kW b pre rt sc wf ws suf).set (b + 1) (.inl (0, 9, .inl (nA g))) = kW b pre g sc wf ws suf := ap_set hb
theorem kW_a2 {b : Nat} {pre suf : mH} {rt : Nat → Nat} {sc : Nat → Nat → Nat} {wf : Nat → Nat} {ws : Nat → Nat} (hb : pre.length = b) : (kW b pre rt sc wf ws suf)[b + 2]? = some (.inl (0, 81, .inl (nA (K2 sc)))) := ap_get hb
theorem kW_a3 {b : Nat} {pre suf : mH} {rt : Nat → Nat} {sc : Nat → Nat → Nat} {wf : Nat → Nat} {ws : Nat → Nat} (hb : pre.length = b) : (kW b pre rt sc wf ws suf)[b + 3]? = some (.inl (0, 9, .inl (nA wf))) := ap_get hb
theorem kW_t3 {b : Nat} {pre suf : mH} {rt : Nat → Nat} {sc : Nat → Nat → Nat} {wf : Nat → Nat} {ws : Nat → Nat} (hb : pre.length = b) {g : Nat → Nat} : (kW b pre rt sc wf ws suf).set (b + 3) (.inl (0, 9, .inl (nA g))) = kW b pre rt sc g ws suf := ap_set hb
theorem kW_a4 {b : Nat} {pre suf : mH} {rt : Nat → Nat} {sc : Nat → Nat → Nat} {wf : Nat → Nat} {ws : Nat → Nat} (hb : pre.length = b) : (kW b pre rt sc wf ws suf)[b + 4]? = some (.inl (0, 9, .inl (nA ws))) := ap_get hb
theorem kW_t4 {b : Nat} {pre suf : mH} {rt : Nat → Nat} {sc : Nat → Nat → Nat} {wf : Nat → Nat} {ws : Nat → Nat} (hb : pre.length = b) {g : Nat → Nat} : (kW b pre rt sc wf ws suf).set (b + 4) (.inl (0, 9, .inl (nA g))) = kW b pre rt sc wf g suf := ap_set hb
def bW (b : Nat) (pre : mH) (bsz : Nat) (bop : Nat) (bbg : Nat → Nat) (ben : Nat → Nat) (suf : mH) : mH := pre ++ (.inr (0, [.ref (b + 1), .ref (b + 2), .int (nI bsz), .int (nI bop)]) :: .inl (0, 40, .inl (nA bbg)) :: .inl (0, 40, .inl (nA ben)) :: suf)
theorem bW_o0 {b : Nat} {pre suf : mH} {bsz : Nat} {bop : Nat} {bbg : Nat → Nat} {ben : Nat → Nat} (hb : pre.length = b) : (bW b pre bsz bop bbg ben suf)[b]? = some (.inr (0, [.ref (b + 1), .ref (b + 2), .int (nI bsz), .int (nI bop)])) := ap_get0 hb
theorem bW_s0_2 {b : Nat} {pre suf : mH} {bsz : Nat} {bop : Nat} {bbg : Nat → Nat} {ben : Nat → Nat} (hb : pre.length = b) {v : Nat} : (bW b pre bsz bop bbg ben suf).set (b) (.inr (0, [.ref (b + 1), .ref (b + 2), .int (nI bsz), .int (nI bop)].set 2 (.int (nI v)))) = bW b pre v bop bbg ben suf := ap_set0 hb
theorem bW_s0_3 {b : Nat} {pre suf : mH} {bsz : Nat} {bop : Nat} {bbg : Nat → Nat} {ben : Nat → Nat} (hb : pre.length = b) {v : Nat} : (bW b pre bsz bop bbg ben suf).set (b) (.inr (0, [.ref (b + 1), .ref (b + 2), .int (nI bsz), .int (nI bop)].set 3 (.int (nI v)))) = bW b pre bsz v bbg ben suf := ap_set0 hb
theorem bW_a1 {b : Nat} {pre suf : mH} {bsz : Nat} {bop : Nat} {bbg : Nat → Nat} {ben : Nat → Nat} (hb : pre.length = b) : (bW b pre bsz bop bbg ben suf)[b + 1]? = some (.inl (0, 40, .inl (nA bbg))) := ap_get hb
theorem bW_t1 {b : Nat} {pre suf : mH} {bsz : Nat} {bop : Nat} {bbg : Nat → Nat} {ben : Nat → Nat} (hb : pre.length = b) {g : Nat → Nat} : (bW b pre bsz bop bbg ben suf).set (b + 1) (.inl (0, 40, .inl (nA g))) = bW b pre bsz bop g ben suf := ap_set hb
theorem bW_a2 {b : Nat} {pre suf : mH} {bsz : Nat} {bop : Nat} {bbg : Nat → Nat} {ben : Nat → Nat} (hb : pre.length = b) : (bW b pre bsz bop bbg ben suf)[b + 2]? = some (.inl (0, 40, .inl (nA ben))) := ap_get hb
theorem bW_t2 {b : Nat} {pre suf : mH} {bsz : Nat} {bop : Nat} {bbg : Nat → Nat} {ben : Nat → Nat} (hb : pre.length = b) {g : Nat → Nat} : (bW b pre bsz bop bbg ben suf).set (b + 2) (.inl (0, 40, .inl (nA g))) = bW b pre bsz bop bbg g suf := ap_set hb
def rW (b : Nat) (pre : mH) (rn : Nat) (ra : Nat → Nat) (suf : mH) : mH := pre ++ (.inr (3, [.ref (b + 1), .int (nI rn)]) :: .inl (0, 40, .inl (nA ra)) :: suf)
theorem rW_o0 {b : Nat} {pre suf : mH} {rn : Nat} {ra : Nat → Nat} (hb : pre.length = b) : (rW b pre rn ra suf)[b]? = some (.inr (3, [.ref (b + 1), .int (nI rn)])) := ap_get0 hb
theorem rW_s0_1 {b : Nat} {pre suf : mH} {rn : Nat} {ra : Nat → Nat} (hb : pre.length = b) {v : Nat} : (rW b pre rn ra suf).set (b) (.inr (3, [.ref (b + 1), .int (nI rn)].set 1 (.int (nI v)))) = rW b pre v ra suf := ap_set0 hb
theorem rW_a1 {b : Nat} {pre suf : mH} {rn : Nat} {ra : Nat → Nat} (hb : pre.length = b) : (rW b pre rn ra suf)[b + 1]? = some (.inl (0, 40, .inl (nA ra))) := ap_get hb
theorem rW_t1 {b : Nat} {pre suf : mH} {rn : Nat} {ra : Nat → Nat} (hb : pre.length = b) {g : Nat → Nat} : (rW b pre rn ra suf).set (b + 1) (.inl (0, 40, .inl (nA g))) = rW b pre rn g suf := ap_set hb
def tW (b : Nat) (pre : mH) (tl : Nat) (ta : Nat → Nat) (suf : mH) : mH := pre ++ (.inr (6, [.ref (b + 1), .int (nI tl)]) :: .inl (0, 200, .inl (nA ta)) :: suf)
theorem tW_o0 {b : Nat} {pre suf : mH} {tl : Nat} {ta : Nat → Nat} (hb : pre.length = b) : (tW b pre tl ta suf)[b]? = some (.inr (6, [.ref (b + 1), .int (nI tl)])) := ap_get0 hb
theorem tW_s0_1 {b : Nat} {pre suf : mH} {tl : Nat} {ta : Nat → Nat} (hb : pre.length = b) {v : Nat} : (tW b pre tl ta suf).set (b) (.inr (6, [.ref (b + 1), .int (nI tl)].set 1 (.int (nI v)))) = tW b pre v ta suf := ap_set0 hb
theorem tW_a1 {b : Nat} {pre suf : mH} {tl : Nat} {ta : Nat → Nat} (hb : pre.length = b) : (tW b pre tl ta suf)[b + 1]? = some (.inl (0, 200, .inl (nA ta))) := ap_get hb
theorem tW_t1 {b : Nat} {pre suf : mH} {tl : Nat} {ta : Nat → Nat} (hb : pre.length = b) {g : Nat → Nat} : (tW b pre tl ta suf).set (b + 1) (.inl (0, 200, .inl (nA g))) = tW b pre tl g suf := ap_set hb
theorem r_Z_isPt {d : Nat} {h : mH} {Q : Option Value → mH → Prop} {p : Nat} (hp : p < 9) (hQ : Q (some (.int (nI 1))) h) : Rn mprog (d + 1) n_Z_isPoint [.int (nI p)] h Q :=
  r_Z_isPoint (fun _ => hQ) (fun q => absurd ⟨nI_pos' (by omega), nI_lt (b := 9) hp (by decide)⟩ q)
def bcI (x : Int32) : Int32 := (((((((x - (((x.toUInt32 >>> ((nI 1).toUInt32 &&& Int32.toUInt32 31)).toInt32) &&& (nI 1431655765))) &&& (nI 858993459)) + ((((x - (((x.toUInt32 >>> ((nI 1).toUInt32 &&& Int32.toUInt32 31)).toInt32) &&& (nI 1431655765))).toUInt32 >>> ((nI 2).toUInt32 &&& Int32.toUInt32 31)).toInt32) &&& (nI 858993459))) + (((((x - (((x.toUInt32 >>> ((nI 1).toUInt32 &&& Int32.toUInt32 31)).toInt32) &&& (nI 1431655765))) &&& (nI 858993459)) + ((((x - (((x.toUInt32 >>> ((nI 1).toUInt32 &&& Int32.toUInt32 31)).toInt32) &&& (nI 1431655765))).toUInt32 >>> ((nI 2).toUInt32 &&& Int32.toUInt32 31)).toInt32) &&& (nI 858993459))).toUInt32 >>> ((nI 4).toUInt32 &&& Int32.toUInt32 31)).toInt32)) &&& (nI 252645135)) + (((((((x - (((x.toUInt32 >>> ((nI 1).toUInt32 &&& Int32.toUInt32 31)).toInt32) &&& (nI 1431655765))) &&& (nI 858993459)) + ((((x - (((x.toUInt32 >>> ((nI 1).toUInt32 &&& Int32.toUInt32 31)).toInt32) &&& (nI 1431655765))).toUInt32 >>> ((nI 2).toUInt32 &&& Int32.toUInt32 31)).toInt32) &&& (nI 858993459))) + (((((x - (((x.toUInt32 >>> ((nI 1).toUInt32 &&& Int32.toUInt32 31)).toInt32) &&& (nI 1431655765))) &&& (nI 858993459)) + ((((x - (((x.toUInt32 >>> ((nI 1).toUInt32 &&& Int32.toUInt32 31)).toInt32) &&& (nI 1431655765))).toUInt32 >>> ((nI 2).toUInt32 &&& Int32.toUInt32 31)).toInt32) &&& (nI 858993459))).toUInt32 >>> ((nI 4).toUInt32 &&& Int32.toUInt32 31)).toInt32)) &&& (nI 252645135)).toUInt32 >>> ((nI 8).toUInt32 &&& Int32.toUInt32 31)).toInt32)) + ((((((((x - (((x.toUInt32 >>> ((nI 1).toUInt32 &&& Int32.toUInt32 31)).toInt32) &&& (nI 1431655765))) &&& (nI 858993459)) + ((((x - (((x.toUInt32 >>> ((nI 1).toUInt32 &&& Int32.toUInt32 31)).toInt32) &&& (nI 1431655765))).toUInt32 >>> ((nI 2).toUInt32 &&& Int32.toUInt32 31)).toInt32) &&& (nI 858993459))) + (((((x - (((x.toUInt32 >>> ((nI 1).toUInt32 &&& Int32.toUInt32 31)).toInt32) &&& (nI 1431655765))) &&& (nI 858993459)) + ((((x - (((x.toUInt32 >>> ((nI 1).toUInt32 &&& Int32.toUInt32 31)).toInt32) &&& (nI 1431655765))).toUInt32 >>> ((nI 2).toUInt32 &&& Int32.toUInt32 31)).toInt32) &&& (nI 858993459))).toUInt32 >>> ((nI 4).toUInt32 &&& Int32.toUInt32 31)).toInt32)) &&& (nI 252645135)) + (((((((x - (((x.toUInt32 >>> ((nI 1).toUInt32 &&& Int32.toUInt32 31)).toInt32) &&& (nI 1431655765))) &&& (nI 858993459)) + ((((x - (((x.toUInt32 >>> ((nI 1).toUInt32 &&& Int32.toUInt32 31)).toInt32) &&& (nI 1431655765))).toUInt32 >>> ((nI 2).toUInt32 &&& Int32.toUInt32 31)).toInt32) &&& (nI 858993459))) + (((((x - (((x.toUInt32 >>> ((nI 1).toUInt32 &&& Int32.toUInt32 31)).toInt32) &&& (nI 1431655765))) &&& (nI 858993459)) + ((((x - (((x.toUInt32 >>> ((nI 1).toUInt32 &&& Int32.toUInt32 31)).toInt32) &&& (nI 1431655765))).toUInt32 >>> ((nI 2).toUInt32 &&& Int32.toUInt32 31)).toInt32) &&& (nI 858993459))).toUInt32 >>> ((nI 4).toUInt32 &&& Int32.toUInt32 31)).toInt32)) &&& (nI 252645135)).toUInt32 >>> ((nI 8).toUInt32 &&& Int32.toUInt32 31)).toInt32)).toUInt32 >>> ((nI 16).toUInt32 &&& Int32.toUInt32 31)).toInt32)) &&& (nI 63)
theorem r_bitCountI {d : Nat} {h : mH} {Q : Option Value → mH → Prop} {x : Int32} (hQ : Q (some (.int (bcI x))) h) : Rn mprog (d + 1) n_Int_bitCount [.int x] h Q := by
  refine Rn.in rfl rfl rfl ?_
  show WP _ _ _ _ 0 [.int x] [] h
  refine wq_iload_n rfl rfl ?_
  refine wq_iload_n rfl rfl ?_
  refine wq_iconst (v := nI 1) rfl (by decide) ?_
  refine wq_iushr (v := (x.toUInt32 >>> ((nI 1).toUInt32 &&& Int32.toUInt32 31)).toInt32) rfl rfl ?_
  refine wq_ldcw (v := nI 1431655765) rfl rfl ?_
  refine wq_iand (v := ((x.toUInt32 >>> ((nI 1).toUInt32 &&& Int32.toUInt32 31)).toInt32) &&& (nI 1431655765)) rfl rfl ?_
  refine wq_isub (v := x - (((x.toUInt32 >>> ((nI 1).toUInt32 &&& Int32.toUInt32 31)).toInt32) &&& (nI 1431655765))) rfl rfl ?_
  refine wq_istore_n (lv' := [.int (x - (((x.toUInt32 >>> ((nI 1).toUInt32 &&& Int32.toUInt32 31)).toInt32) &&& (nI 1431655765)))]) rfl rfl rfl ?_
  refine wq_iload_n rfl rfl ?_
  refine wq_ldcw (v := nI 858993459) rfl rfl ?_
  refine wq_iand (v := (x - (((x.toUInt32 >>> ((nI 1).toUInt32 &&& Int32.toUInt32 31)).toInt32) &&& (nI 1431655765))) &&& (nI 858993459)) rfl rfl ?_
  refine wq_iload_n rfl rfl ?_
  refine wq_iconst (v := nI 2) rfl (by decide) ?_
  refine wq_iushr (v := ((x - (((x.toUInt32 >>> ((nI 1).toUInt32 &&& Int32.toUInt32 31)).toInt32) &&& (nI 1431655765))).toUInt32 >>> ((nI 2).toUInt32 &&& Int32.toUInt32 31)).toInt32) rfl rfl ?_
  refine wq_ldcw (v := nI 858993459) rfl rfl ?_
  refine wq_iand (v := (((x - (((x.toUInt32 >>> ((nI 1).toUInt32 &&& Int32.toUInt32 31)).toInt32) &&& (nI 1431655765))).toUInt32 >>> ((nI 2).toUInt32 &&& Int32.toUInt32 31)).toInt32) &&& (nI 858993459)) rfl rfl ?_
  refine wq_iadd (v := ((x - (((x.toUInt32 >>> ((nI 1).toUInt32 &&& Int32.toUInt32 31)).toInt32) &&& (nI 1431655765))) &&& (nI 858993459)) + ((((x - (((x.toUInt32 >>> ((nI 1).toUInt32 &&& Int32.toUInt32 31)).toInt32) &&& (nI 1431655765))).toUInt32 >>> ((nI 2).toUInt32 &&& Int32.toUInt32 31)).toInt32) &&& (nI 858993459))) rfl rfl ?_
  refine wq_istore_n (lv' := [.int (((x - (((x.toUInt32 >>> ((nI 1).toUInt32 &&& Int32.toUInt32 31)).toInt32) &&& (nI 1431655765))) &&& (nI 858993459)) + ((((x - (((x.toUInt32 >>> ((nI 1).toUInt32 &&& Int32.toUInt32 31)).toInt32) &&& (nI 1431655765))).toUInt32 >>> ((nI 2).toUInt32 &&& Int32.toUInt32 31)).toInt32) &&& (nI 858993459)))]) rfl rfl rfl ?_
  refine wq_iload_n rfl rfl ?_
  refine wq_iload_n rfl rfl ?_
  refine wq_iconst (v := nI 4) rfl (by decide) ?_
  refine wq_iushr (v := ((((x - (((x.toUInt32 >>> ((nI 1).toUInt32 &&& Int32.toUInt32 31)).toInt32) &&& (nI 1431655765))) &&& (nI 858993459)) + ((((x - (((x.toUInt32 >>> ((nI 1).toUInt32 &&& Int32.toUInt32 31)).toInt32) &&& (nI 1431655765))).toUInt32 >>> ((nI 2).toUInt32 &&& Int32.toUInt32 31)).toInt32) &&& (nI 858993459))).toUInt32 >>> ((nI 4).toUInt32 &&& Int32.toUInt32 31)).toInt32) rfl rfl ?_
  refine wq_iadd (v := (((x - (((x.toUInt32 >>> ((nI 1).toUInt32 &&& Int32.toUInt32 31)).toInt32) &&& (nI 1431655765))) &&& (nI 858993459)) + ((((x - (((x.toUInt32 >>> ((nI 1).toUInt32 &&& Int32.toUInt32 31)).toInt32) &&& (nI 1431655765))).toUInt32 >>> ((nI 2).toUInt32 &&& Int32.toUInt32 31)).toInt32) &&& (nI 858993459))) + (((((x - (((x.toUInt32 >>> ((nI 1).toUInt32 &&& Int32.toUInt32 31)).toInt32) &&& (nI 1431655765))) &&& (nI 858993459)) + ((((x - (((x.toUInt32 >>> ((nI 1).toUInt32 &&& Int32.toUInt32 31)).toInt32) &&& (nI 1431655765))).toUInt32 >>> ((nI 2).toUInt32 &&& Int32.toUInt32 31)).toInt32) &&& (nI 858993459))).toUInt32 >>> ((nI 4).toUInt32 &&& Int32.toUInt32 31)).toInt32)) rfl rfl ?_
  refine wq_ldcw (v := nI 252645135) rfl rfl ?_
  refine wq_iand (v := ((((x - (((x.toUInt32 >>> ((nI 1).toUInt32 &&& Int32.toUInt32 31)).toInt32) &&& (nI 1431655765))) &&& (nI 858993459)) + ((((x - (((x.toUInt32 >>> ((nI 1).toUInt32 &&& Int32.toUInt32 31)).toInt32) &&& (nI 1431655765))).toUInt32 >>> ((nI 2).toUInt32 &&& Int32.toUInt32 31)).toInt32) &&& (nI 858993459))) + (((((x - (((x.toUInt32 >>> ((nI 1).toUInt32 &&& Int32.toUInt32 31)).toInt32) &&& (nI 1431655765))) &&& (nI 858993459)) + ((((x - (((x.toUInt32 >>> ((nI 1).toUInt32 &&& Int32.toUInt32 31)).toInt32) &&& (nI 1431655765))).toUInt32 >>> ((nI 2).toUInt32 &&& Int32.toUInt32 31)).toInt32) &&& (nI 858993459))).toUInt32 >>> ((nI 4).toUInt32 &&& Int32.toUInt32 31)).toInt32)) &&& (nI 252645135)) rfl rfl ?_
  refine wq_istore_n (lv' := [.int (((((x - (((x.toUInt32 >>> ((nI 1).toUInt32 &&& Int32.toUInt32 31)).toInt32) &&& (nI 1431655765))) &&& (nI 858993459)) + ((((x - (((x.toUInt32 >>> ((nI 1).toUInt32 &&& Int32.toUInt32 31)).toInt32) &&& (nI 1431655765))).toUInt32 >>> ((nI 2).toUInt32 &&& Int32.toUInt32 31)).toInt32) &&& (nI 858993459))) + (((((x - (((x.toUInt32 >>> ((nI 1).toUInt32 &&& Int32.toUInt32 31)).toInt32) &&& (nI 1431655765))) &&& (nI 858993459)) + ((((x - (((x.toUInt32 >>> ((nI 1).toUInt32 &&& Int32.toUInt32 31)).toInt32) &&& (nI 1431655765))).toUInt32 >>> ((nI 2).toUInt32 &&& Int32.toUInt32 31)).toInt32) &&& (nI 858993459))).toUInt32 >>> ((nI 4).toUInt32 &&& Int32.toUInt32 31)).toInt32)) &&& (nI 252645135))]) rfl rfl rfl ?_
  refine wq_iload_n rfl rfl ?_
  refine wq_iload_n rfl rfl ?_
  refine wq_bipush (v := nI 8) rfl (by decide) ?_
  refine wq_iushr (v := ((((((x - (((x.toUInt32 >>> ((nI 1).toUInt32 &&& Int32.toUInt32 31)).toInt32) &&& (nI 1431655765))) &&& (nI 858993459)) + ((((x - (((x.toUInt32 >>> ((nI 1).toUInt32 &&& Int32.toUInt32 31)).toInt32) &&& (nI 1431655765))).toUInt32 >>> ((nI 2).toUInt32 &&& Int32.toUInt32 31)).toInt32) &&& (nI 858993459))) + (((((x - (((x.toUInt32 >>> ((nI 1).toUInt32 &&& Int32.toUInt32 31)).toInt32) &&& (nI 1431655765))) &&& (nI 858993459)) + ((((x - (((x.toUInt32 >>> ((nI 1).toUInt32 &&& Int32.toUInt32 31)).toInt32) &&& (nI 1431655765))).toUInt32 >>> ((nI 2).toUInt32 &&& Int32.toUInt32 31)).toInt32) &&& (nI 858993459))).toUInt32 >>> ((nI 4).toUInt32 &&& Int32.toUInt32 31)).toInt32)) &&& (nI 252645135)).toUInt32 >>> ((nI 8).toUInt32 &&& Int32.toUInt32 31)).toInt32) rfl rfl ?_
  refine wq_iadd (v := (((((x - (((x.toUInt32 >>> ((nI 1).toUInt32 &&& Int32.toUInt32 31)).toInt32) &&& (nI 1431655765))) &&& (nI 858993459)) + ((((x - (((x.toUInt32 >>> ((nI 1).toUInt32 &&& Int32.toUInt32 31)).toInt32) &&& (nI 1431655765))).toUInt32 >>> ((nI 2).toUInt32 &&& Int32.toUInt32 31)).toInt32) &&& (nI 858993459))) + (((((x - (((x.toUInt32 >>> ((nI 1).toUInt32 &&& Int32.toUInt32 31)).toInt32) &&& (nI 1431655765))) &&& (nI 858993459)) + ((((x - (((x.toUInt32 >>> ((nI 1).toUInt32 &&& Int32.toUInt32 31)).toInt32) &&& (nI 1431655765))).toUInt32 >>> ((nI 2).toUInt32 &&& Int32.toUInt32 31)).toInt32) &&& (nI 858993459))).toUInt32 >>> ((nI 4).toUInt32 &&& Int32.toUInt32 31)).toInt32)) &&& (nI 252645135)) + (((((((x - (((x.toUInt32 >>> ((nI 1).toUInt32 &&& Int32.toUInt32 31)).toInt32) &&& (nI 1431655765))) &&& (nI 858993459)) + ((((x - (((x.toUInt32 >>> ((nI 1).toUInt32 &&& Int32.toUInt32 31)).toInt32) &&& (nI 1431655765))).toUInt32 >>> ((nI 2).toUInt32 &&& Int32.toUInt32 31)).toInt32) &&& (nI 858993459))) + (((((x - (((x.toUInt32 >>> ((nI 1).toUInt32 &&& Int32.toUInt32 31)).toInt32) &&& (nI 1431655765))) &&& (nI 858993459)) + ((((x - (((x.toUInt32 >>> ((nI 1).toUInt32 &&& Int32.toUInt32 31)).toInt32) &&& (nI 1431655765))).toUInt32 >>> ((nI 2).toUInt32 &&& Int32.toUInt32 31)).toInt32) &&& (nI 858993459))).toUInt32 >>> ((nI 4).toUInt32 &&& Int32.toUInt32 31)).toInt32)) &&& (nI 252645135)).toUInt32 >>> ((nI 8).toUInt32 &&& Int32.toUInt32 31)).toInt32)) rfl rfl ?_
  refine wq_istore_n (lv' := [.int ((((((x - (((x.toUInt32 >>> ((nI 1).toUInt32 &&& Int32.toUInt32 31)).toInt32) &&& (nI 1431655765))) &&& (nI 858993459)) + ((((x - (((x.toUInt32 >>> ((nI 1).toUInt32 &&& Int32.toUInt32 31)).toInt32) &&& (nI 1431655765))).toUInt32 >>> ((nI 2).toUInt32 &&& Int32.toUInt32 31)).toInt32) &&& (nI 858993459))) + (((((x - (((x.toUInt32 >>> ((nI 1).toUInt32 &&& Int32.toUInt32 31)).toInt32) &&& (nI 1431655765))) &&& (nI 858993459)) + ((((x - (((x.toUInt32 >>> ((nI 1).toUInt32 &&& Int32.toUInt32 31)).toInt32) &&& (nI 1431655765))).toUInt32 >>> ((nI 2).toUInt32 &&& Int32.toUInt32 31)).toInt32) &&& (nI 858993459))).toUInt32 >>> ((nI 4).toUInt32 &&& Int32.toUInt32 31)).toInt32)) &&& (nI 252645135)) + (((((((x - (((x.toUInt32 >>> ((nI 1).toUInt32 &&& Int32.toUInt32 31)).toInt32) &&& (nI 1431655765))) &&& (nI 858993459)) + ((((x - (((x.toUInt32 >>> ((nI 1).toUInt32 &&& Int32.toUInt32 31)).toInt32) &&& (nI 1431655765))).toUInt32 >>> ((nI 2).toUInt32 &&& Int32.toUInt32 31)).toInt32) &&& (nI 858993459))) + (((((x - (((x.toUInt32 >>> ((nI 1).toUInt32 &&& Int32.toUInt32 31)).toInt32) &&& (nI 1431655765))) &&& (nI 858993459)) + ((((x - (((x.toUInt32 >>> ((nI 1).toUInt32 &&& Int32.toUInt32 31)).toInt32) &&& (nI 1431655765))).toUInt32 >>> ((nI 2).toUInt32 &&& Int32.toUInt32 31)).toInt32) &&& (nI 858993459))).toUInt32 >>> ((nI 4).toUInt32 &&& Int32.toUInt32 31)).toInt32)) &&& (nI 252645135)).toUInt32 >>> ((nI 8).toUInt32 &&& Int32.toUInt32 31)).toInt32))]) rfl rfl rfl ?_
  refine wq_iload_n rfl rfl ?_
  refine wq_iload_n rfl rfl ?_
  refine wq_bipush (v := nI 16) rfl (by decide) ?_
  refine wq_iushr (v := (((((((x - (((x.toUInt32 >>> ((nI 1).toUInt32 &&& Int32.toUInt32 31)).toInt32) &&& (nI 1431655765))) &&& (nI 858993459)) + ((((x - (((x.toUInt32 >>> ((nI 1).toUInt32 &&& Int32.toUInt32 31)).toInt32) &&& (nI 1431655765))).toUInt32 >>> ((nI 2).toUInt32 &&& Int32.toUInt32 31)).toInt32) &&& (nI 858993459))) + (((((x - (((x.toUInt32 >>> ((nI 1).toUInt32 &&& Int32.toUInt32 31)).toInt32) &&& (nI 1431655765))) &&& (nI 858993459)) + ((((x - (((x.toUInt32 >>> ((nI 1).toUInt32 &&& Int32.toUInt32 31)).toInt32) &&& (nI 1431655765))).toUInt32 >>> ((nI 2).toUInt32 &&& Int32.toUInt32 31)).toInt32) &&& (nI 858993459))).toUInt32 >>> ((nI 4).toUInt32 &&& Int32.toUInt32 31)).toInt32)) &&& (nI 252645135)) + (((((((x - (((x.toUInt32 >>> ((nI 1).toUInt32 &&& Int32.toUInt32 31)).toInt32) &&& (nI 1431655765))) &&& (nI 858993459)) + ((((x - (((x.toUInt32 >>> ((nI 1).toUInt32 &&& Int32.toUInt32 31)).toInt32) &&& (nI 1431655765))).toUInt32 >>> ((nI 2).toUInt32 &&& Int32.toUInt32 31)).toInt32) &&& (nI 858993459))) + (((((x - (((x.toUInt32 >>> ((nI 1).toUInt32 &&& Int32.toUInt32 31)).toInt32) &&& (nI 1431655765))) &&& (nI 858993459)) + ((((x - (((x.toUInt32 >>> ((nI 1).toUInt32 &&& Int32.toUInt32 31)).toInt32) &&& (nI 1431655765))).toUInt32 >>> ((nI 2).toUInt32 &&& Int32.toUInt32 31)).toInt32) &&& (nI 858993459))).toUInt32 >>> ((nI 4).toUInt32 &&& Int32.toUInt32 31)).toInt32)) &&& (nI 252645135)).toUInt32 >>> ((nI 8).toUInt32 &&& Int32.toUInt32 31)).toInt32)).toUInt32 >>> ((nI 16).toUInt32 &&& Int32.toUInt32 31)).toInt32) rfl rfl ?_
  refine wq_iadd (v := ((((((x - (((x.toUInt32 >>> ((nI 1).toUInt32 &&& Int32.toUInt32 31)).toInt32) &&& (nI 1431655765))) &&& (nI 858993459)) + ((((x - (((x.toUInt32 >>> ((nI 1).toUInt32 &&& Int32.toUInt32 31)).toInt32) &&& (nI 1431655765))).toUInt32 >>> ((nI 2).toUInt32 &&& Int32.toUInt32 31)).toInt32) &&& (nI 858993459))) + (((((x - (((x.toUInt32 >>> ((nI 1).toUInt32 &&& Int32.toUInt32 31)).toInt32) &&& (nI 1431655765))) &&& (nI 858993459)) + ((((x - (((x.toUInt32 >>> ((nI 1).toUInt32 &&& Int32.toUInt32 31)).toInt32) &&& (nI 1431655765))).toUInt32 >>> ((nI 2).toUInt32 &&& Int32.toUInt32 31)).toInt32) &&& (nI 858993459))).toUInt32 >>> ((nI 4).toUInt32 &&& Int32.toUInt32 31)).toInt32)) &&& (nI 252645135)) + (((((((x - (((x.toUInt32 >>> ((nI 1).toUInt32 &&& Int32.toUInt32 31)).toInt32) &&& (nI 1431655765))) &&& (nI 858993459)) + ((((x - (((x.toUInt32 >>> ((nI 1).toUInt32 &&& Int32.toUInt32 31)).toInt32) &&& (nI 1431655765))).toUInt32 >>> ((nI 2).toUInt32 &&& Int32.toUInt32 31)).toInt32) &&& (nI 858993459))) + (((((x - (((x.toUInt32 >>> ((nI 1).toUInt32 &&& Int32.toUInt32 31)).toInt32) &&& (nI 1431655765))) &&& (nI 858993459)) + ((((x - (((x.toUInt32 >>> ((nI 1).toUInt32 &&& Int32.toUInt32 31)).toInt32) &&& (nI 1431655765))).toUInt32 >>> ((nI 2).toUInt32 &&& Int32.toUInt32 31)).toInt32) &&& (nI 858993459))).toUInt32 >>> ((nI 4).toUInt32 &&& Int32.toUInt32 31)).toInt32)) &&& (nI 252645135)).toUInt32 >>> ((nI 8).toUInt32 &&& Int32.toUInt32 31)).toInt32)) + ((((((((x - (((x.toUInt32 >>> ((nI 1).toUInt32 &&& Int32.toUInt32 31)).toInt32) &&& (nI 1431655765))) &&& (nI 858993459)) + ((((x - (((x.toUInt32 >>> ((nI 1).toUInt32 &&& Int32.toUInt32 31)).toInt32) &&& (nI 1431655765))).toUInt32 >>> ((nI 2).toUInt32 &&& Int32.toUInt32 31)).toInt32) &&& (nI 858993459))) + (((((x - (((x.toUInt32 >>> ((nI 1).toUInt32 &&& Int32.toUInt32 31)).toInt32) &&& (nI 1431655765))) &&& (nI 858993459)) + ((((x - (((x.toUInt32 >>> ((nI 1).toUInt32 &&& Int32.toUInt32 31)).toInt32) &&& (nI 1431655765))).toUInt32 >>> ((nI 2).toUInt32 &&& Int32.toUInt32 31)).toInt32) &&& (nI 858993459))).toUInt32 >>> ((nI 4).toUInt32 &&& Int32.toUInt32 31)).toInt32)) &&& (nI 252645135)) + (((((((x - (((x.toUInt32 >>> ((nI 1).toUInt32 &&& Int32.toUInt32 31)).toInt32) &&& (nI 1431655765))) &&& (nI 858993459)) + ((((x - (((x.toUInt32 >>> ((nI 1).toUInt32 &&& Int32.toUInt32 31)).toInt32) &&& (nI 1431655765))).toUInt32 >>> ((nI 2).toUInt32 &&& Int32.toUInt32 31)).toInt32) &&& (nI 858993459))) + (((((x - (((x.toUInt32 >>> ((nI 1).toUInt32 &&& Int32.toUInt32 31)).toInt32) &&& (nI 1431655765))) &&& (nI 858993459)) + ((((x - (((x.toUInt32 >>> ((nI 1).toUInt32 &&& Int32.toUInt32 31)).toInt32) &&& (nI 1431655765))).toUInt32 >>> ((nI 2).toUInt32 &&& Int32.toUInt32 31)).toInt32) &&& (nI 858993459))).toUInt32 >>> ((nI 4).toUInt32 &&& Int32.toUInt32 31)).toInt32)) &&& (nI 252645135)).toUInt32 >>> ((nI 8).toUInt32 &&& Int32.toUInt32 31)).toInt32)).toUInt32 >>> ((nI 16).toUInt32 &&& Int32.toUInt32 31)).toInt32)) rfl rfl ?_
  refine wq_istore_n (lv' := [.int (((((((x - (((x.toUInt32 >>> ((nI 1).toUInt32 &&& Int32.toUInt32 31)).toInt32) &&& (nI 1431655765))) &&& (nI 858993459)) + ((((x - (((x.toUInt32 >>> ((nI 1).toUInt32 &&& Int32.toUInt32 31)).toInt32) &&& (nI 1431655765))).toUInt32 >>> ((nI 2).toUInt32 &&& Int32.toUInt32 31)).toInt32) &&& (nI 858993459))) + (((((x - (((x.toUInt32 >>> ((nI 1).toUInt32 &&& Int32.toUInt32 31)).toInt32) &&& (nI 1431655765))) &&& (nI 858993459)) + ((((x - (((x.toUInt32 >>> ((nI 1).toUInt32 &&& Int32.toUInt32 31)).toInt32) &&& (nI 1431655765))).toUInt32 >>> ((nI 2).toUInt32 &&& Int32.toUInt32 31)).toInt32) &&& (nI 858993459))).toUInt32 >>> ((nI 4).toUInt32 &&& Int32.toUInt32 31)).toInt32)) &&& (nI 252645135)) + (((((((x - (((x.toUInt32 >>> ((nI 1).toUInt32 &&& Int32.toUInt32 31)).toInt32) &&& (nI 1431655765))) &&& (nI 858993459)) + ((((x - (((x.toUInt32 >>> ((nI 1).toUInt32 &&& Int32.toUInt32 31)).toInt32) &&& (nI 1431655765))).toUInt32 >>> ((nI 2).toUInt32 &&& Int32.toUInt32 31)).toInt32) &&& (nI 858993459))) + (((((x - (((x.toUInt32 >>> ((nI 1).toUInt32 &&& Int32.toUInt32 31)).toInt32) &&& (nI 1431655765))) &&& (nI 858993459)) + ((((x - (((x.toUInt32 >>> ((nI 1).toUInt32 &&& Int32.toUInt32 31)).toInt32) &&& (nI 1431655765))).toUInt32 >>> ((nI 2).toUInt32 &&& Int32.toUInt32 31)).toInt32) &&& (nI 858993459))).toUInt32 >>> ((nI 4).toUInt32 &&& Int32.toUInt32 31)).toInt32)) &&& (nI 252645135)).toUInt32 >>> ((nI 8).toUInt32 &&& Int32.toUInt32 31)).toInt32)) + ((((((((x - (((x.toUInt32 >>> ((nI 1).toUInt32 &&& Int32.toUInt32 31)).toInt32) &&& (nI 1431655765))) &&& (nI 858993459)) + ((((x - (((x.toUInt32 >>> ((nI 1).toUInt32 &&& Int32.toUInt32 31)).toInt32) &&& (nI 1431655765))).toUInt32 >>> ((nI 2).toUInt32 &&& Int32.toUInt32 31)).toInt32) &&& (nI 858993459))) + (((((x - (((x.toUInt32 >>> ((nI 1).toUInt32 &&& Int32.toUInt32 31)).toInt32) &&& (nI 1431655765))) &&& (nI 858993459)) + ((((x - (((x.toUInt32 >>> ((nI 1).toUInt32 &&& Int32.toUInt32 31)).toInt32) &&& (nI 1431655765))).toUInt32 >>> ((nI 2).toUInt32 &&& Int32.toUInt32 31)).toInt32) &&& (nI 858993459))).toUInt32 >>> ((nI 4).toUInt32 &&& Int32.toUInt32 31)).toInt32)) &&& (nI 252645135)) + (((((((x - (((x.toUInt32 >>> ((nI 1).toUInt32 &&& Int32.toUInt32 31)).toInt32) &&& (nI 1431655765))) &&& (nI 858993459)) + ((((x - (((x.toUInt32 >>> ((nI 1).toUInt32 &&& Int32.toUInt32 31)).toInt32) &&& (nI 1431655765))).toUInt32 >>> ((nI 2).toUInt32 &&& Int32.toUInt32 31)).toInt32) &&& (nI 858993459))) + (((((x - (((x.toUInt32 >>> ((nI 1).toUInt32 &&& Int32.toUInt32 31)).toInt32) &&& (nI 1431655765))) &&& (nI 858993459)) + ((((x - (((x.toUInt32 >>> ((nI 1).toUInt32 &&& Int32.toUInt32 31)).toInt32) &&& (nI 1431655765))).toUInt32 >>> ((nI 2).toUInt32 &&& Int32.toUInt32 31)).toInt32) &&& (nI 858993459))).toUInt32 >>> ((nI 4).toUInt32 &&& Int32.toUInt32 31)).toInt32)) &&& (nI 252645135)).toUInt32 >>> ((nI 8).toUInt32 &&& Int32.toUInt32 31)).toInt32)).toUInt32 >>> ((nI 16).toUInt32 &&& Int32.toUInt32 31)).toInt32))]) rfl rfl rfl ?_
  refine wq_iload_n rfl rfl ?_
  refine wq_bipush (v := nI 63) rfl (by decide) ?_
  refine wq_iand (v := (((((((x - (((x.toUInt32 >>> ((nI 1).toUInt32 &&& Int32.toUInt32 31)).toInt32) &&& (nI 1431655765))) &&& (nI 858993459)) + ((((x - (((x.toUInt32 >>> ((nI 1).toUInt32 &&& Int32.toUInt32 31)).toInt32) &&& (nI 1431655765))).toUInt32 >>> ((nI 2).toUInt32 &&& Int32.toUInt32 31)).toInt32) &&& (nI 858993459))) + (((((x - (((x.toUInt32 >>> ((nI 1).toUInt32 &&& Int32.toUInt32 31)).toInt32) &&& (nI 1431655765))) &&& (nI 858993459)) + ((((x - (((x.toUInt32 >>> ((nI 1).toUInt32 &&& Int32.toUInt32 31)).toInt32) &&& (nI 1431655765))).toUInt32 >>> ((nI 2).toUInt32 &&& Int32.toUInt32 31)).toInt32) &&& (nI 858993459))).toUInt32 >>> ((nI 4).toUInt32 &&& Int32.toUInt32 31)).toInt32)) &&& (nI 252645135)) + (((((((x - (((x.toUInt32 >>> ((nI 1).toUInt32 &&& Int32.toUInt32 31)).toInt32) &&& (nI 1431655765))) &&& (nI 858993459)) + ((((x - (((x.toUInt32 >>> ((nI 1).toUInt32 &&& Int32.toUInt32 31)).toInt32) &&& (nI 1431655765))).toUInt32 >>> ((nI 2).toUInt32 &&& Int32.toUInt32 31)).toInt32) &&& (nI 858993459))) + (((((x - (((x.toUInt32 >>> ((nI 1).toUInt32 &&& Int32.toUInt32 31)).toInt32) &&& (nI 1431655765))) &&& (nI 858993459)) + ((((x - (((x.toUInt32 >>> ((nI 1).toUInt32 &&& Int32.toUInt32 31)).toInt32) &&& (nI 1431655765))).toUInt32 >>> ((nI 2).toUInt32 &&& Int32.toUInt32 31)).toInt32) &&& (nI 858993459))).toUInt32 >>> ((nI 4).toUInt32 &&& Int32.toUInt32 31)).toInt32)) &&& (nI 252645135)).toUInt32 >>> ((nI 8).toUInt32 &&& Int32.toUInt32 31)).toInt32)) + ((((((((x - (((x.toUInt32 >>> ((nI 1).toUInt32 &&& Int32.toUInt32 31)).toInt32) &&& (nI 1431655765))) &&& (nI 858993459)) + ((((x - (((x.toUInt32 >>> ((nI 1).toUInt32 &&& Int32.toUInt32 31)).toInt32) &&& (nI 1431655765))).toUInt32 >>> ((nI 2).toUInt32 &&& Int32.toUInt32 31)).toInt32) &&& (nI 858993459))) + (((((x - (((x.toUInt32 >>> ((nI 1).toUInt32 &&& Int32.toUInt32 31)).toInt32) &&& (nI 1431655765))) &&& (nI 858993459)) + ((((x - (((x.toUInt32 >>> ((nI 1).toUInt32 &&& Int32.toUInt32 31)).toInt32) &&& (nI 1431655765))).toUInt32 >>> ((nI 2).toUInt32 &&& Int32.toUInt32 31)).toInt32) &&& (nI 858993459))).toUInt32 >>> ((nI 4).toUInt32 &&& Int32.toUInt32 31)).toInt32)) &&& (nI 252645135)) + (((((((x - (((x.toUInt32 >>> ((nI 1).toUInt32 &&& Int32.toUInt32 31)).toInt32) &&& (nI 1431655765))) &&& (nI 858993459)) + ((((x - (((x.toUInt32 >>> ((nI 1).toUInt32 &&& Int32.toUInt32 31)).toInt32) &&& (nI 1431655765))).toUInt32 >>> ((nI 2).toUInt32 &&& Int32.toUInt32 31)).toInt32) &&& (nI 858993459))) + (((((x - (((x.toUInt32 >>> ((nI 1).toUInt32 &&& Int32.toUInt32 31)).toInt32) &&& (nI 1431655765))) &&& (nI 858993459)) + ((((x - (((x.toUInt32 >>> ((nI 1).toUInt32 &&& Int32.toUInt32 31)).toInt32) &&& (nI 1431655765))).toUInt32 >>> ((nI 2).toUInt32 &&& Int32.toUInt32 31)).toInt32) &&& (nI 858993459))).toUInt32 >>> ((nI 4).toUInt32 &&& Int32.toUInt32 31)).toInt32)) &&& (nI 252645135)).toUInt32 >>> ((nI 8).toUInt32 &&& Int32.toUInt32 31)).toInt32)).toUInt32 >>> ((nI 16).toUInt32 &&& Int32.toUInt32 31)).toInt32)) &&& (nI 63)) rfl rfl ?_
  refine wq_iret rfl trivial ?_
  exact hQ
def popc (x : Nat) : Nat → Nat
  | 0 => 0
  | n + 1 => popc x n + (if x.testBit n = true then 1 else 0)
set_option maxRecDepth 100000 in
theorem bcI_ok : ∀ x : Fin 512, bcI (nI x.val) = nI (popc x.val 9) := by decide +kernel
theorem r_bitCount {d : Nat} {h : mH} {Q : Option Value → mH → Prop} {x : Nat} (hx : x < 512) (hQ : Q (some (.int (nI (popc x 9)))) h) : Rn mprog (d + 1) n_Int_bitCount [.int (nI x)] h Q := r_bitCountI (by rw [bcI_ok ⟨x, hx⟩]; exact hQ)
theorem nN_nand (a m : Nat) : (nI m ^^^ (-1)) &&& nI a = nI (nd a m) := by rw [Int32.and_comm]; exact nN_andn a m
def ntz3 (n y : Nat) : Nat := if y ≤ 4 then n + y >>> 1 else n + 2 + y >>> 2 >>> 1
def ntz2 (n y : Nat) : Nat := if y ≤ 16 then ntz3 n y else ntz3 (n + 4) (y >>> 4)
def ntz1 (n y : Nat) : Nat := if y ≤ 256 then ntz2 n y else ntz2 (n + 8) (y >>> 8)
def ntzN (x : Nat) : Nat := if nd (x - 1) x = 0 then nd (x - 1) x &&& 32 else ntz1 1 (nd (x - 1) x)
def low9 (x : Nat) : Nat := if x.testBit 0 then 0 else if x.testBit 1 then 1 else if x.testBit 2 then 2 else if x.testBit 3 then 3 else if x.testBit 4 then 4 else if x.testBit 5 then 5 else if x.testBit 6 then 6 else if x.testBit 7 then 7 else 8
set_option maxRecDepth 100000 in
theorem ntz_ok : ∀ x : Fin 512, x.val ≠ 0 → ntzN x.val = low9 x.val ∧ nd (x.val - 1) x.val < 512 := by decide +kernel
set_option maxRecDepth 100000 in
theorem low9_ok : ∀ x : Fin 512, x.val ≠ 0 → x.val.testBit (low9 x.val) = true ∧ low9 x.val < 9 ∧ ∀ j : Fin 9, j.val < low9 x.val → x.val.testBit j.val = false := by decide +kernel
theorem shr_le (y k : Nat) : y >>> k ≤ y := by rw [Nat.shiftRight_eq_div_pow]; exact Nat.div_le_self _ _
theorem r_ntz {d : Nat} {h : mH} {Q : Option Value → mH → Prop} {x : Nat} (hx : x < 512) (h0 : x ≠ 0) (hQ : Q (some (.int (nI (low9 x)))) h) : Rn mprog (d + 1) n_Int_numberOfTrailingZeros [.int (nI x)] h Q := by
  refine Rn.in rfl rfl rfl ?_
  show WP _ _ _ _ 0 [.int (nI x), .long 0] [] h
  refine wq_iload_n rfl rfl ?_
  refine wq_iconst (v := (-1)) rfl (by decide) ?_
  refine wq_ixor (v := (nI x ^^^ (-1))) rfl rfl ?_
  refine wq_iload_n rfl rfl ?_
  refine wq_iconst (v := nI 1) rfl (by decide) ?_
  refine wn_isub rfl (by omega) ?_
  refine wq_iand (v := nI (nd (x - 1) x)) rfl (nN_nand _ _) ?_
  refine wq_istore_n (lv' := [.int (nI (nd (x - 1) x)), .long 0]) rfl rfl rfl ?_
  have hy : nd (x - 1) x < 512 := (ntz_ok ⟨x, hx⟩ h0).2
  refine wq_iload_n rfl rfl ?_
  refine wn_if_gt rfl (by omega) (fun c9 => ?_) (fun c9 => ?_)
  · skip
    refine wq_iconst (v := nI 1) rfl (by decide) ?_
    refine wq_istore_n (lv' := [.int (nI (nd (x - 1) x)), .int (nI 1)]) rfl rfl rfl ?_
    refine wq_iload_n rfl rfl ?_
    refine wq_ldcw (v := nI 65536) rfl rfl ?_
    refine wn_ic_le rfl (by omega) (by omega) (fun c23 => ?_) (fun c23 => absurd c23 (by omega))
    have hy8 := shr_le (nd (x - 1) x) 8
    refine wq_iload_n rfl rfl ?_
    refine wq_sipush (v := nI 256) rfl (by decide) ?_
    refine wn_ic_le rfl (by omega) (by omega) (fun c38 => ?_) (fun c38 => ?_)
    · skip
      have hz := shr_le (nd (x - 1) x) 4
      have hz8 := shr_le (nd (x - 1) x >>> 8) 4
      refine wq_iload_n rfl rfl ?_
      refine wq_bipush (v := nI 16) rfl (by decide) ?_
      refine wn_ic_le rfl (by omega) (by omega) (fun c52 => ?_) (fun c52 => ?_)
      · skip
        have hw0 := shr_le (nd (x - 1) x) 2
        have hw1 := shr_le (nd (x - 1) x >>> 8) 2
        have hw2 := shr_le (nd (x - 1) x >>> 4) 2
        have hw3 := shr_le (nd (x - 1) x >>> 8 >>> 4) 2
        refine wq_iload_n rfl rfl ?_
        refine wq_iconst (v := nI 4) rfl (by decide) ?_
        refine wn_ic_le rfl (by omega) (by omega) (fun c64 => ?_) (fun c64 => ?_)
        · skip
          refine wq_iload_n rfl rfl ?_
          refine wq_iload_n rfl rfl ?_
          refine wq_iconst (v := nI 1) rfl (by decide) ?_
          refine wn_iushr rfl (by omega) (by omega) ?_
          refine wn_iadd rfl ?_
          refine wq_iret rfl trivial ?_
          have e : ntzN x = 1 + ((nd (x - 1) x) >>> 1) := by rw [ntzN, if_neg (Nat.ne_of_gt c9), ntz1, if_pos c38, ntz2, if_pos c52, ntz3, if_pos c64]
          rw [← e, (ntz_ok ⟨x, hx⟩ h0).1]
          exact hQ
        · skip
          refine wq_iinc (v := nI (1 + 2)) (lv' := [.int (nI (nd (x - 1) x)), .int (nI (1 + 2))]) rfl rfl (nI_add _ _) rfl ?_
          refine wq_iload_n rfl rfl ?_
          refine wq_iconst (v := nI 2) rfl (by decide) ?_
          refine wn_iushr rfl (by omega) (by omega) ?_
          refine wq_istore_n (lv' := [.int (nI ((nd (x - 1) x) >>> 2)), .int (nI (1 + 2))]) rfl rfl rfl ?_
          refine wq_iload_n rfl rfl ?_
          refine wq_iload_n rfl rfl ?_
          refine wq_iconst (v := nI 1) rfl (by decide) ?_
          refine wn_iushr rfl (by omega) (by omega) ?_
          refine wn_iadd rfl ?_
          refine wq_iret rfl trivial ?_
          have e : ntzN x = (1 + 2) + (((nd (x - 1) x) >>> 2) >>> 1) := by rw [ntzN, if_neg (Nat.ne_of_gt c9), ntz1, if_pos c38, ntz2, if_pos c52, ntz3, if_neg (Nat.not_le.mpr c64)]
          rw [← e, (ntz_ok ⟨x, hx⟩ h0).1]
          exact hQ
      · skip
        refine wq_iinc (v := nI (1 + 4)) (lv' := [.int (nI (nd (x - 1) x)), .int (nI (1 + 4))]) rfl rfl (nI_add _ _) rfl ?_
        refine wq_iload_n rfl rfl ?_
        refine wq_iconst (v := nI 4) rfl (by decide) ?_
        refine wn_iushr rfl (by omega) (by omega) ?_
        refine wq_istore_n (lv' := [.int (nI ((nd (x - 1) x) >>> 4)), .int (nI (1 + 4))]) rfl rfl rfl ?_
        have hw0 := shr_le (nd (x - 1) x) 2
        have hw1 := shr_le (nd (x - 1) x >>> 8) 2
        have hw2 := shr_le (nd (x - 1) x >>> 4) 2
        have hw3 := shr_le (nd (x - 1) x >>> 8 >>> 4) 2
        refine wq_iload_n rfl rfl ?_
        refine wq_iconst (v := nI 4) rfl (by decide) ?_
        refine wn_ic_le rfl (by omega) (by omega) (fun c64 => ?_) (fun c64 => ?_)
        · skip
          refine wq_iload_n rfl rfl ?_
          refine wq_iload_n rfl rfl ?_
          refine wq_iconst (v := nI 1) rfl (by decide) ?_
          refine wn_iushr rfl (by omega) (by omega) ?_
          refine wn_iadd rfl ?_
          refine wq_iret rfl trivial ?_
          have e : ntzN x = (1 + 4) + (((nd (x - 1) x) >>> 4) >>> 1) := by rw [ntzN, if_neg (Nat.ne_of_gt c9), ntz1, if_pos c38, ntz2, if_neg (Nat.not_le.mpr c52), ntz3, if_pos c64]
          rw [← e, (ntz_ok ⟨x, hx⟩ h0).1]
          exact hQ
        · skip
          refine wq_iinc (v := nI (1 + 4 + 2)) (lv' := [.int (nI ((nd (x - 1) x) >>> 4)), .int (nI (1 + 4 + 2))]) rfl rfl (nI_add _ _) rfl ?_
          refine wq_iload_n rfl rfl ?_
          refine wq_iconst (v := nI 2) rfl (by decide) ?_
          refine wn_iushr rfl (by omega) (by omega) ?_
          refine wq_istore_n (lv' := [.int (nI (((nd (x - 1) x) >>> 4) >>> 2)), .int (nI (1 + 4 + 2))]) rfl rfl rfl ?_
          refine wq_iload_n rfl rfl ?_
          refine wq_iload_n rfl rfl ?_
          refine wq_iconst (v := nI 1) rfl (by decide) ?_
          refine wn_iushr rfl (by omega) (by omega) ?_
          refine wn_iadd rfl ?_
          refine wq_iret rfl trivial ?_
          have e : ntzN x = (1 + 4 + 2) + ((((nd (x - 1) x) >>> 4) >>> 2) >>> 1) := by rw [ntzN, if_neg (Nat.ne_of_gt c9), ntz1, if_pos c38, ntz2, if_neg (Nat.not_le.mpr c52), ntz3, if_neg (Nat.not_le.mpr c64)]
          rw [← e, (ntz_ok ⟨x, hx⟩ h0).1]
          exact hQ
    · skip
      refine wq_iinc (v := nI (1 + 8)) (lv' := [.int (nI (nd (x - 1) x)), .int (nI (1 + 8))]) rfl rfl (nI_add _ _) rfl ?_
      refine wq_iload_n rfl rfl ?_
      refine wq_bipush (v := nI 8) rfl (by decide) ?_
      refine wn_iushr rfl (by omega) (by omega) ?_
      refine wq_istore_n (lv' := [.int (nI ((nd (x - 1) x) >>> 8)), .int (nI (1 + 8))]) rfl rfl rfl ?_
      have hz := shr_le (nd (x - 1) x) 4
      have hz8 := shr_le (nd (x - 1) x >>> 8) 4
      refine wq_iload_n rfl rfl ?_
      refine wq_bipush (v := nI 16) rfl (by decide) ?_
      refine wn_ic_le rfl (by omega) (by omega) (fun c52 => ?_) (fun c52 => ?_)
      · skip
        have hw0 := shr_le (nd (x - 1) x) 2
        have hw1 := shr_le (nd (x - 1) x >>> 8) 2
        have hw2 := shr_le (nd (x - 1) x >>> 4) 2
        have hw3 := shr_le (nd (x - 1) x >>> 8 >>> 4) 2
        refine wq_iload_n rfl rfl ?_
        refine wq_iconst (v := nI 4) rfl (by decide) ?_
        refine wn_ic_le rfl (by omega) (by omega) (fun c64 => ?_) (fun c64 => ?_)
        · skip
          refine wq_iload_n rfl rfl ?_
          refine wq_iload_n rfl rfl ?_
          refine wq_iconst (v := nI 1) rfl (by decide) ?_
          refine wn_iushr rfl (by omega) (by omega) ?_
          refine wn_iadd rfl ?_
          refine wq_iret rfl trivial ?_
          have e : ntzN x = (1 + 8) + (((nd (x - 1) x) >>> 8) >>> 1) := by rw [ntzN, if_neg (Nat.ne_of_gt c9), ntz1, if_neg (Nat.not_le.mpr c38), ntz2, if_pos c52, ntz3, if_pos c64]
          rw [← e, (ntz_ok ⟨x, hx⟩ h0).1]
          exact hQ
        · skip
          refine wq_iinc (v := nI (1 + 8 + 2)) (lv' := [.int (nI ((nd (x - 1) x) >>> 8)), .int (nI (1 + 8 + 2))]) rfl rfl (nI_add _ _) rfl ?_
          refine wq_iload_n rfl rfl ?_
          refine wq_iconst (v := nI 2) rfl (by decide) ?_
          refine wn_iushr rfl (by omega) (by omega) ?_
          refine wq_istore_n (lv' := [.int (nI (((nd (x - 1) x) >>> 8) >>> 2)), .int (nI (1 + 8 + 2))]) rfl rfl rfl ?_
          refine wq_iload_n rfl rfl ?_
          refine wq_iload_n rfl rfl ?_
          refine wq_iconst (v := nI 1) rfl (by decide) ?_
          refine wn_iushr rfl (by omega) (by omega) ?_
          refine wn_iadd rfl ?_
          refine wq_iret rfl trivial ?_
          have e : ntzN x = (1 + 8 + 2) + ((((nd (x - 1) x) >>> 8) >>> 2) >>> 1) := by rw [ntzN, if_neg (Nat.ne_of_gt c9), ntz1, if_neg (Nat.not_le.mpr c38), ntz2, if_pos c52, ntz3, if_neg (Nat.not_le.mpr c64)]
          rw [← e, (ntz_ok ⟨x, hx⟩ h0).1]
          exact hQ
      · skip
        refine wq_iinc (v := nI (1 + 8 + 4)) (lv' := [.int (nI ((nd (x - 1) x) >>> 8)), .int (nI (1 + 8 + 4))]) rfl rfl (nI_add _ _) rfl ?_
        refine wq_iload_n rfl rfl ?_
        refine wq_iconst (v := nI 4) rfl (by decide) ?_
        refine wn_iushr rfl (by omega) (by omega) ?_
        refine wq_istore_n (lv' := [.int (nI (((nd (x - 1) x) >>> 8) >>> 4)), .int (nI (1 + 8 + 4))]) rfl rfl rfl ?_
        have hw0 := shr_le (nd (x - 1) x) 2
        have hw1 := shr_le (nd (x - 1) x >>> 8) 2
        have hw2 := shr_le (nd (x - 1) x >>> 4) 2
        have hw3 := shr_le (nd (x - 1) x >>> 8 >>> 4) 2
        refine wq_iload_n rfl rfl ?_
        refine wq_iconst (v := nI 4) rfl (by decide) ?_
        refine wn_ic_le rfl (by omega) (by omega) (fun c64 => ?_) (fun c64 => ?_)
        · skip
          refine wq_iload_n rfl rfl ?_
          refine wq_iload_n rfl rfl ?_
          refine wq_iconst (v := nI 1) rfl (by decide) ?_
          refine wn_iushr rfl (by omega) (by omega) ?_
          refine wn_iadd rfl ?_
          refine wq_iret rfl trivial ?_
          have e : ntzN x = (1 + 8 + 4) + ((((nd (x - 1) x) >>> 8) >>> 4) >>> 1) := by rw [ntzN, if_neg (Nat.ne_of_gt c9), ntz1, if_neg (Nat.not_le.mpr c38), ntz2, if_neg (Nat.not_le.mpr c52), ntz3, if_pos c64]
          rw [← e, (ntz_ok ⟨x, hx⟩ h0).1]
          exact hQ
        · skip
          refine wq_iinc (v := nI (1 + 8 + 4 + 2)) (lv' := [.int (nI (((nd (x - 1) x) >>> 8) >>> 4)), .int (nI (1 + 8 + 4 + 2))]) rfl rfl (nI_add _ _) rfl ?_
          refine wq_iload_n rfl rfl ?_
          refine wq_iconst (v := nI 2) rfl (by decide) ?_
          refine wn_iushr rfl (by omega) (by omega) ?_
          refine wq_istore_n (lv' := [.int (nI ((((nd (x - 1) x) >>> 8) >>> 4) >>> 2)), .int (nI (1 + 8 + 4 + 2))]) rfl rfl rfl ?_
          refine wq_iload_n rfl rfl ?_
          refine wq_iload_n rfl rfl ?_
          refine wq_iconst (v := nI 1) rfl (by decide) ?_
          refine wn_iushr rfl (by omega) (by omega) ?_
          refine wn_iadd rfl ?_
          refine wq_iret rfl trivial ?_
          have e : ntzN x = (1 + 8 + 4 + 2) + (((((nd (x - 1) x) >>> 8) >>> 4) >>> 2) >>> 1) := by rw [ntzN, if_neg (Nat.ne_of_gt c9), ntz1, if_neg (Nat.not_le.mpr c38), ntz2, if_neg (Nat.not_le.mpr c52), ntz3, if_neg (Nat.not_le.mpr c64)]
          rw [← e, (ntz_ok ⟨x, hx⟩ h0).1]
          exact hQ
  · skip
    refine wq_iload_n rfl rfl ?_
    refine wq_bipush (v := nI 32) rfl (by decide) ?_
    refine wn_iand rfl ?_
    refine wq_iret rfl trivial ?_
    have e : ntzN x = (nd (x - 1) x) &&& 32 := if_pos c9
    rw [← e, (ntz_ok ⟨x, hx⟩ h0).1]
    exact hQ
theorem r_Z_lowestOf {d : Nat} {h : mH} {Q : Option Value → mH → Prop} {x : Nat} (hx : x < 512) (h0 : x ≠ 0) (hQ : Q (some (.int (nI (low9 x)))) h) : Rn mprog (d + 2) n_Z_lowestOf [.int (nI x)] h Q := by
  refine Rn.in rfl rfl rfl ?_
  show WP _ _ _ _ 0 [.int (nI x)] [] h
  refine wq_iload_n rfl rfl ?_
  refine wq_stat (a := [.int (nI x)]) (rest := []) rfl rfl rfl rfl rfl ?_
  refine r_ntz hx h0 ?_
  show WP _ _ _ _ 4 [.int (nI x)] [.int (nI (low9 x))] h
  refine wq_iret rfl trivial ?_
  exact hQ
theorem r_compare {d : Nat} {h : mH} {Q : Option Value → mH → Prop} {x y : Int32} (k1 : x < y → Q (some (.int (-1))) h) (k2 : x = y → Q (some (.int (nI 0))) h) (k3 : ¬ x < y → ¬ x = y → Q (some (.int (nI 1))) h) : Rn mprog (d + 1) n_Int_compare [.int x, .int y] h Q := by
  refine Rn.in rfl rfl rfl ?_
  show WP _ _ _ _ 0 [.int x, .int y] [] h
  refine wq_iload_n rfl rfl ?_
  refine wq_iload_n rfl rfl ?_
  refine wq_ic_ge rfl (fun c2 => ?_) (fun c2 => ?_)
  · skip
    refine wq_iload_n rfl rfl ?_
    refine wq_iload_n rfl rfl ?_
    refine wq_ic_ne rfl (fun c11 => ?_) (fun c11 => ?_)
    · skip
      refine wq_iconst (v := nI 1) rfl (by decide) ?_
      refine wq_iret rfl trivial ?_
      exact k3 (Int32.not_lt.mpr c2) c11
    · skip
      refine wq_iconst (v := nI 0) rfl (by decide) ?_
      refine wq_goto rfl ?_
      refine wq_iret rfl trivial ?_
      exact k2 c11
  · skip
    refine wq_iconst (v := (-1)) rfl (by decide) ?_
    refine wq_goto rfl ?_
    refine wq_iret rfl trivial ?_
    exact k1 (Int32.not_le.mp c2)
