/-! what a run of calls is about: text, row, what can be undone, what is kept; what each call answers -/
abbrev Rw := Nat × (Nat → Nat)
abbrev AS := Nat × (Nat → Nat) × Rw × Nat × (Nat → Rw) × Nat × (Nat → Rw)
def sR (A : AS) (r : Rw) : AS := (A.1, A.2.1, r, A.2.2.2)
def uaN (un : Nat) (ua : Nat → Rw) (r : Rw) : Nat → Rw := fun j => if un = 6 then (if j < 5 then ua (j + 1) else r) else (if j < un then ua j else r)
def nT (A : AS) : AS := (A.1, A.2.1, A.2.2.1, unN A.2.2.2.1, uaN A.2.2.2.1 A.2.2.2.2.1 A.2.2.1, A.2.2.2.2.2)
/-- the story of the row -/
noncomputable def sT (A : AS) : TT := stR A.2.2.1.2 A.2.2.1.1
noncomputable def bT (A : AS) : List (Nat × Nat) := bsR A.2.2.1.2 A.2.2.1.1
def swA (ra : Nat → Nat) (k : Nat) : Nat → Nat := uN' (uN' ra (k - 1) (ra k)) k (ra (k - 1))
def f_write (A : AS) (x : Nat) : Int32 × AS := if x < 32 ∨ 126 < x then (-1, A) else if A.1 = 200 then (-3, A) else (nI (A.1 + 1), A.1 + 1, uN' A.2.1 A.1 x, A.2.2)
def f_wipe (A : AS) : Int32 × AS := (nI A.1, 0, A.2)
noncomputable def rdA (A : AS) : Option Nat × Rw := rdg A.1 A.2.1 41 0 0 (fun _ => 0)
noncomputable def f_fault (A : AS) : Int32 × AS := (opI (rdA A).1, A)
noncomputable def f_lay (A : AS) : Int32 × AS := if (rdA A).1 = none then (nI (rdA A).2.1, A.1, A.2.1, (rdA A).2, 0, A.2.2.2.2) else (-2, A)
noncomputable def f_act (A : AS) (κ x y : Nat) : Int32 × AS := if 3 < κ ∨ 8 < x ∨ 8 < y ∨ (1 < κ ∧ x = y) then (-1, A) else if mayT (sT A) (acN κ x y) = false then (-2, A) else if A.2.2.1.1 = 40 then (-3, A) else (nI (A.2.2.1.1 + 1), sR (nT A) (rAd A.2.2.1 (acN κ x y)))
def f_drop (A : AS) : Int32 × AS := if A.2.2.1.1 = 0 then (-2, A) else (nI (A.2.2.1.1 - 1), sR (nT A) (A.2.2.1.1 - 1, A.2.2.1.2))
noncomputable def f_exch (A : AS) (k : Nat) : Int32 × AS := if k < 1 ∨ A.2.2.1.1 ≤ k then (-1, A) else if okB (swA A.2.2.1.2 k) A.2.2.1.1 = false then (-2, A) else (nI (wpL (bT A) (bsR (swA A.2.2.1.2 k) A.2.2.1.1)), sR (nT A) (A.2.2.1.1, swA A.2.2.1.2 k))
noncomputable def f_backw (A : AS) : Int32 × AS := if (sT A).1 = 0 then (nI A.2.2.1.1, sR (nT A) (A.2.2.1.1, bwA A.2.2.1.2 A.2.2.1.1)) else (-2, A)
noncomputable def maT (A : AS) : Nat := (sT A).2.1 + popc (sT A).1 9
noncomputable def f_clear (A : AS) : Int32 × AS := if (sT A).1 = 0 then (-2, A) else if 40 < A.2.2.1.1 + maT A then (-3, A) else (nI (maT A), sR (nT A) (clR A.2.2.1))
def f_undo (A : AS) : Int32 × AS := if A.2.2.2.1 = 0 then (-2, A) else (nI (A.2.2.2.1 - 1), A.1, A.2.1, A.2.2.2.2.1 (A.2.2.2.1 - 1), A.2.2.2.1 - 1, A.2.2.2.2)
def spL (ra : Nat → Nat) : Nat → Nat → Nat → Int32
  | 0, _, _ => -4
  | m + 1, i, k => if k < ilN (ra i >>> 8) then nI (leN (ra i >>> 8) (ra i >>> 4 &&& 15) (ra i &&& 15) k) else spL ra m (i + 1) (k - ilN (ra i >>> 8))
def f_spelt (A : AS) (k : Nat) : Int32 × AS := (spL A.2.2.1.2 A.2.2.1.1 0 k, A)
def f_told (A : AS) (k w : Nat) : Int32 × AS := if k < 1 ∨ A.2.2.1.1 < k ∨ 2 < w then (-1, A) else if w = 0 then (nI (A.2.2.1.2 (k - 1) >>> 8), A) else if w = 1 then (nI (A.2.2.1.2 (k - 1) >>> 4 &&& 15), A) else if A.2.2.1.2 (k - 1) >>> 8 < 2 then (-4, A) else (nI (A.2.2.1.2 (k - 1) &&& 15), A)
noncomputable def f_graph (A : AS) (k w : Nat) : Int32 × AS := if A.2.2.1.1 < k ∨ 3 < w then (-1, A) else if w = 0 then (nI (stR A.2.2.1.2 k).1, A) else if w = 1 then (nI (stR A.2.2.1.2 k).2.1, A) else if w = 2 then (nI (npT (stR A.2.2.1.2 k)), A) else (nI (stR A.2.2.1.2 k).2.1 - nI (popc (stR A.2.2.1.2 k).1 9) + nI (npT (stR A.2.2.1.2 k)), A)
noncomputable def f_piece (A : AS) (k p : Nat) : Int32 × AS := if A.2.2.1.1 < k ∨ 8 < p then (-1, A) else if (stR A.2.2.1.2 k).1.testBit p = true then (nI (low9 (pOf (stR A.2.2.1.2 k).2.2.1 p)), A) else (-4, A)
noncomputable def f_root (A : AS) (p : Nat) : Int32 × AS := if 8 < p then (-1, A) else if (sT A).1.testBit p = true then (nI ((sT A).2.2.2.1 p), A) else (-4, A)
noncomputable def f_kin (A : AS) (x y : Nat) : Int32 × AS := if 8 < x ∨ 8 < y then (-1, A) else if (sT A).1.testBit x = false ∨ (sT A).1.testBit y = false ∨ (pOf (sT A).2.2.1 x).testBit y = true then (-2, A) else if (sT A).2.2.2.2.1 x y = 0 then (-4, A) else (nI ((sT A).2.2.2.2.1 x y), A)
noncomputable def f_barN (A : AS) (j w : Nat) : Int32 × AS := if 2 < w then (-1, A) else if j = 1 then (nI (bT A).length, A) else if j = 2 then (nI (opT (sT A)).length, A) else (nI ((bT A).length - (opT (sT A)).length), A)
noncomputable def f_bar (A : AS) (i w : Nat) : Int32 × AS := if 2 < w then (-1, A) else if (bT A).length ≤ i then (-4, A) else if w = 0 then (nI (lF (bT A) i), A) else if w = 1 then (nI (lG (bT A) i), A) else (nI (lnN A.2.2.1.1 (lF (bT A) i) (lG (bT A) i)), A)
noncomputable def f_last (A : AS) (i j : Nat) : Int32 × AS := if A.2.2.1.1 < j ∨ j < i then (-1, A) else (nI (cnL (fun f g => Nat.ble f i && Nat.ble j (laE A.2.2.1.1 g)) (bT A)), A)
noncomputable def f_long (A : AS) (m : Nat) : Int32 × AS := if m < 1 ∨ 41 < m then (-1, A) else (nI (cnL (fun f g => Nat.ble m (lnN A.2.2.1.1 f g)) (bT A)), A)
/-- the best exchange of the first ones -/
noncomputable def stL (ra : Nat → Nat) (rn : Nat) : Nat → Option (Nat × Nat)
  | 0 => none
  | k + 1 => if okB (swA ra (k + 1)) rn = true then
      (match stL ra rn k with
       | none => some (k + 1, loL rn (bsR (swA ra (k + 1)) rn))
       | some z => if z.2 < loL rn (bsR (swA ra (k + 1)) rn) then some (k + 1, loL rn (bsR (swA ra (k + 1)) rn)) else some z)
    else stL ra rn k
def pI (w : Nat) (z : Option (Nat × Nat)) : Int32 := match z with
  | none => -4
  | some x => if w = 0 then nI x.1 else nI x.2
noncomputable def f_stead (A : AS) (w : Nat) : Int32 × AS := if 1 < w then (-1, A) else (pI w (stL A.2.2.1.2 A.2.2.1.1 (A.2.2.1.1 - 1)), A)
def f_keep (A : AS) : Int32 × AS := if A.2.2.2.2.2.1 = 2 then (-3, A) else (nI (A.2.2.2.2.2.1 + 1), A.1, A.2.1, A.2.2.1, A.2.2.2.1, A.2.2.2.2.1, A.2.2.2.2.2.1 + 1, fun j => if j < A.2.2.2.2.2.1 then A.2.2.2.2.2.2 j else A.2.2.1)
noncomputable def f_other (A : AS) : Int32 × AS := if A.2.2.2.2.2.1 = 0 then (-2, A) else (nI (wpL (bT A) (bsR (A.2.2.2.2.2.2 (A.2.2.2.2.2.1 - 1)).2 (A.2.2.2.2.2.2 (A.2.2.2.2.2.1 - 1)).1)), A)
def f_back (A : AS) : Int32 × AS := if A.2.2.2.2.2.1 = 0 then (-2, A) else (nI (A.2.2.2.2.2.1 - 1), A.1, A.2.1, A.2.2.2.2.2.2 (A.2.2.2.2.2.1 - 1), 0, A.2.2.2.2.1, A.2.2.2.2.2.1 - 1, A.2.2.2.2.2.2)
noncomputable def f_count (A : AS) (w : Nat) : Int32 × AS := if 6 < w then (-1, A) else if w = 0 then (nI A.2.2.1.1, A) else if w = 1 then (nI (popc (sT A).1 9), A) else if w = 2 then (nI (sT A).2.1, A) else if w = 3 then (nI (npT (sT A)), A) else if w = 4 then (nI A.2.2.2.1, A) else if w = 5 then (nI A.1, A) else (nI A.2.2.2.2.2.1, A)
theorem fin_ {P : AS → mH → Prop} {p : Int32 × AS} {Q : Option Value → mH → Prop} (hQ : ∀ h', P p.2 h' → Q (some (.int p.1)) h') {v : Int32} {A' : AS} (e : p = (v, A')) {h' : mH} (hP : P A' h') : Q (some (.int v)) h' := by
  subst e
  exact hQ h' hP
/-- what the reference holds -/
def RI (A : AS) (tx sq pa ke : Nat → Nat) : Prop :=
  A.1 ≤ 200 ∧ (∀ i, i < A.1 → tx i = A.2.1 i ∧ A.2.1 i < 127) ∧ RV A.2.2.1 ∧ RR sq A.2.2.1 ∧
  A.2.2.2.1 ≤ 6 ∧ (∀ j, j < A.2.2.2.1 → RV (A.2.2.2.2.1 j) ∧ RR (fun i => pa (41 * j + i)) (A.2.2.2.2.1 j)) ∧
  A.2.2.2.2.2.1 ≤ 2 ∧ ∀ j, j < A.2.2.2.2.2.1 → RV (A.2.2.2.2.2.2 j) ∧ RR (fun i => ke (41 * j + i)) (A.2.2.2.2.2.2 j)
def RIA (b : Nat) (pre : mH) (A : AS) (h : mH) : Prop :=
  ∃ tn ap wb tx sq pa ke to wg we th pcs brs be po ro kf bg en, h = mR b pre tn A.1 A.2.2.2.1 A.2.2.2.2.2.1 ap wb tx sq pa ke to wg we th pcs brs be po ro kf bg en ∧ RI A tx sq pa ke ∧ SB ro kf
theorem RR_congr {f g : Nat → Nat} {r : Rw} (h : RR f r) (hl : r.1 ≤ 40) (e : ∀ i, i ≤ 40 → f i = g i) : RR g r := by
  refine ⟨?_, fun i hi => ?_⟩
  · rw [← e 0 (by omega)]; exact h.1
  · rw [← e (i + 1) (by omega)]; exact h.2 i hi
theorem RI_row {A : AS} {tx sq sq' pa ke : Nat → Nat} {r : Rw} (h : RI A tx sq pa ke) (h1 : RV r) (h2 : RR sq' r) : RI (sR A r) tx sq' pa ke :=
  ⟨h.1, h.2.1, h1, h2, h.2.2.2.2⟩
theorem RI_note {A : AS} {tx sq pa ke : Nat → Nat} (h : RI A tx sq pa ke) : RI (nT A) tx sq (paN A.2.2.2.1 pa sq) ke := by
  obtain ⟨h1, h2, h3, h4, h5, h6, h7, h8⟩ := h
  refine ⟨h1, h2, h3, h4, ?_, fun j hj => ?_, h7, h8⟩
  · show unN _ ≤ 6
    unfold unN
    split <;> omega
  · have hj : j < unN A.2.2.2.1 := hj
    show RV (uaN A.2.2.2.1 A.2.2.2.2.1 A.2.2.1 j) ∧ RR _ (uaN A.2.2.2.1 A.2.2.2.2.1 A.2.2.1 j)
    unfold unN at hj
    unfold uaN paN
    by_cases e : A.2.2.2.1 = 6
    · rw [if_pos e] at hj
      rw [if_pos e, if_pos e]
      by_cases q : j < 5
      · rw [if_pos q]
        obtain ⟨q1, q2⟩ := h6 (j + 1) (by omega)
        refine ⟨q1, RR_congr q2 q1.1 (fun i hi => ?_)⟩
        show pa (41 * (j + 1) + i) = blk (shF pa 205) 205 sq 41 (41 * j + i)
        unfold blk shF
        rw [if_neg (by omega), if_pos (by omega)]
        congr 1
        omega
      · rw [if_neg q]
        refine ⟨h3, RR_congr h4 h3.1 (fun i hi => ?_)⟩
        have ej : j = 5 := by omega
        subst ej
        show sq i = blk (shF pa 205) 205 sq 41 (41 * 5 + i)
        unfold blk
        rw [if_pos (by omega), show 41 * 5 + i - 205 = i by omega]
    · rw [if_neg e] at hj
      rw [if_neg e, if_neg e]
      by_cases q : j < A.2.2.2.1
      · rw [if_pos q]
        obtain ⟨q1, q2⟩ := h6 j q
        refine ⟨q1, RR_congr q2 q1.1 (fun i hi => ?_)⟩
        show pa (41 * j + i) = blk pa (41 * A.2.2.2.1) sq 41 (41 * j + i)
        unfold blk
        rw [if_neg (by omega)]
      · rw [if_neg q]
        refine ⟨h3, RR_congr h4 h3.1 (fun i hi => ?_)⟩
        have ej : j = A.2.2.2.1 := by omega
        show sq i = blk pa (41 * A.2.2.2.1) sq 41 (41 * j + i)
        unfold blk
        rw [if_pos (by omega), ej]
        congr 1
        omega
theorem ltr_congr {tl p : Nat} {tx ta : Nat → Nat} (h : ∀ i, i < tl → tx i = ta i) : ltr tl tx p = ltr tl ta p := by
  by_cases e : p < tl
  · rw [ltr_in e, ltr_in e, h p e]
  · rw [ltr_out (by omega), ltr_out (by omega)]
theorem itA_congr {tl p : Nat} {tx ta : Nat → Nat} (h : ∀ i, i < tl → tx i = ta i) : itA tl tx p = itA tl ta p := by
  unfold itA
  rw [ltr_congr (p := p) h, ltr_congr (p := p + 1) h, ltr_congr (p := p + 2) h, ltr_congr (p := p + ilN (kL (ltr tl ta p)) - 1) h]
theorem rdg_text {tl : Nat} {tx ta : Nat → Nat} (h : ∀ i, i < tl → tx i = ta i) : ∀ t k p ra, rdg tl tx t k p ra = rdg tl ta t k p ra
  | 0, _, _, _ => rfl
  | t + 1, k, p, ra => by
    by_cases e : p < tl
    · cases q : itA tl ta p with
      | none => rw [rdg_bad e q, rdg_bad e (by rw [itA_congr h]; exact q)]
      | some ac =>
        have q' : itA tl tx p = some ac := by rw [itA_congr h]; exact q
        by_cases z : k < 40 ∧ mayT (stR ra k) ac = true
        · rw [rdg_go e q z, rdg_go e q' z]; exact rdg_text h t _ _ _
        · rw [rdg_no e q z, rdg_no e q' z]
    · rw [rdg_end (by omega), rdg_end (by omega)]
theorem rdA_RV (A : AS) : RV (rdA A).2 := RV_rdg 41 0 0 _ ⟨Nat.zero_le 40, fun i hi => absurd hi (Nat.not_lt_zero i), fun i hi => absurd hi (Nat.not_lt_zero i)⟩
theorem stP {ra : Nat → Nat} {rn k : Nat} (hV : RV (rn, ra)) (hk : k ≤ rn) : TV (stR ra k) k := TV_run k (fun i hi => hV.2.1 i (by show i < rn; omega)) (okR_le hV.2.2 hk)
theorem RV_le {ra : Nat → Nat} {rn k : Nat} (hV : RV (rn, ra)) (hk : k ≤ rn) : RV (k, ra) := ⟨by have : rn ≤ 40 := hV.1; show k ≤ 40; omega, fun i hi => hV.2.1 i (by have : i < k := hi; show i < rn; omega), okR_le hV.2.2 hk⟩
theorem sim_ed {τ : TT} {k : Nat} {be : Nat → Nat} (h : TV τ k) (e : ∀ p, p < 9 → be p = τ.2.2.1 p) : esum be 9 / 2 = τ.2.1 := by
  rw [esum_congr e 9 (Nat.le_refl 9), ← h.2.1]
  omega
