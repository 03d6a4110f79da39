/-! both sides of each call -/
def SC (M : Nat) (args : List Value) (A : AS) (r : Int32) (A' : AS) : Prop := ∀ suf h, CIA suf A h → Rn mprog (0 + 9) M (.ref 0 :: args) h (fun o h' => o = some (.int r) ∧ CIA suf A' h')
def SM (M : Nat) (args : List Value) (A : AS) (r : Int32) (A' : AS) : Prop := ∀ pre h, pre.length = 49 → RIA 49 pre A h → Rn mprog (0 + 7) M (.ref 49 :: args) h (fun o h' => o = some (.int r) ∧ RIA 49 pre A' h')
def JO (MZ MM : Nat) (args : List Value) (A : AS) : Prop := ∃ r A', SC MZ args A r A' ∧ SM MM args A r A'
theorem i32_m3 {v : Int32} (h : v < 0) (h3 : ¬ v < -3) : v = -1 ∨ v = -2 ∨ v = -3 := by
  rw [Int32.lt_iff_toInt_lt] at h h3
  have e0 : (0 : Int32).toInt = 0 := by decide
  have e3 : (-3 : Int32).toInt = -3 := by decide
  have e2 : (-2 : Int32).toInt = -2 := by decide
  have e1 : (-1 : Int32).toInt = -1 := by decide
  rw [e0] at h
  rw [e3] at h3
  rcases (by omega : v.toInt = -1 ∨ v.toInt = -2 ∨ v.toInt = -3) with q | q | q
  · exact Or.inl (Int32.toInt_inj.mp (by rw [q, e1]))
  · exact Or.inr (Or.inl (Int32.toInt_inj.mp (by rw [q, e2])))
  · exact Or.inr (Or.inr (Int32.toInt_inj.mp (by rw [q, e3])))
theorem J_wipe (A : AS) : JO n_Z_wipe n_M_wipe [] A := ⟨_, _, fun suf h hR => C_wipe hR  (fun h' hh => ⟨rfl, hh⟩), fun pre h hb hR => R_wipe hb hR  (fun h' hh => ⟨rfl, hh⟩)⟩
theorem J_fault (A : AS) : JO n_Z_fault n_M_fault [] A := ⟨_, _, fun suf h hR => C_fault hR  (fun h' hh => ⟨rfl, hh⟩), fun pre h hb hR => R_fault hb hR  (fun h' hh => ⟨rfl, hh⟩)⟩
theorem J_lay (A : AS) : JO n_Z_lay n_M_lay [] A := ⟨_, _, fun suf h hR => C_lay hR  (fun h' hh => ⟨rfl, hh⟩), fun pre h hb hR => R_lay hb hR  (fun h' hh => ⟨rfl, hh⟩)⟩
theorem J_drop (A : AS) : JO n_Z_drop n_M_drop [] A := ⟨_, _, fun suf h hR => C_drop hR  (fun h' hh => ⟨rfl, hh⟩), fun pre h hb hR => R_drop hb hR  (fun h' hh => ⟨rfl, hh⟩)⟩
theorem J_backwards (A : AS) : JO n_Z_backwards n_M_backwards [] A := ⟨_, _, fun suf h hR => C_backwards hR  (fun h' hh => ⟨rfl, hh⟩), fun pre h hb hR => R_backwards hb hR  (fun h' hh => ⟨rfl, hh⟩)⟩
theorem J_clear (A : AS) : JO n_Z_clear n_M_clear [] A := ⟨_, _, fun suf h hR => C_clear hR  (fun h' hh => ⟨rfl, hh⟩), fun pre h hb hR => R_clear hb hR  (fun h' hh => ⟨rfl, hh⟩)⟩
theorem J_undo (A : AS) : JO n_Z_undo n_M_undo [] A := ⟨_, _, fun suf h hR => C_undo hR  (fun h' hh => ⟨rfl, hh⟩), fun pre h hb hR => R_undo hb hR  (fun h' hh => ⟨rfl, hh⟩)⟩
theorem J_keep (A : AS) : JO n_Z_keep n_M_keep [] A := ⟨_, _, fun suf h hR => C_keep hR  (fun h' hh => ⟨rfl, hh⟩), fun pre h hb hR => R_keep hb hR  (fun h' hh => ⟨rfl, hh⟩)⟩
theorem J_other (A : AS) : JO n_Z_other n_M_other [] A := ⟨_, _, fun suf h hR => C_other hR  (fun h' hh => ⟨rfl, hh⟩), fun pre h hb hR => R_other hb hR  (fun h' hh => ⟨rfl, hh⟩)⟩
theorem J_back (A : AS) : JO n_Z_back n_M_back [] A := ⟨_, _, fun suf h hR => C_back hR  (fun h' hh => ⟨rfl, hh⟩), fun pre h hb hR => R_back hb hR  (fun h' hh => ⟨rfl, hh⟩)⟩
theorem J_write (A : AS) (v : Int32) : JO n_Z_write n_M_write [.int v] A := by
  rcases i32_cases v with hn | ⟨k, hk, rfl⟩
  · exact ⟨_, _, fun suf h hR => C_write_neg hR hn (fun h' hh => ⟨rfl, hh⟩), fun pre h hb hR => R_write_neg hb hR hn (fun h' hh => ⟨rfl, hh⟩)⟩
  · exact ⟨_, _, fun suf h hR => C_write hR hk (fun h' hh => ⟨rfl, hh⟩), fun pre h hb hR => R_write hb hR hk (fun h' hh => ⟨rfl, hh⟩)⟩
theorem J_exchange (A : AS) (v : Int32) : JO n_Z_exchange n_M_exchange [.int v] A := by
  rcases i32_cases v with hn | ⟨k, hk, rfl⟩
  · exact ⟨_, _, fun suf h hR => C_exchange_neg hR hn (fun h' hh => ⟨rfl, hh⟩), fun pre h hb hR => R_exchange_neg hb hR hn (fun h' hh => ⟨rfl, hh⟩)⟩
  · exact ⟨_, _, fun suf h hR => C_exchange hR hk (fun h' hh => ⟨rfl, hh⟩), fun pre h hb hR => R_exchange hb hR hk (fun h' hh => ⟨rfl, hh⟩)⟩
theorem J_spelt (A : AS) (v : Int32) : JO n_Z_spelt n_M_spelt [.int v] A := by
  rcases i32_cases v with hn | ⟨k, hk, rfl⟩
  · exact ⟨_, _, fun suf h hR => C_spelt_neg hR hn (fun h' hh => ⟨rfl, hh⟩), fun pre h hb hR => R_spelt_neg hb hR hn (fun h' hh => ⟨rfl, hh⟩)⟩
  · exact ⟨_, _, fun suf h hR => C_spelt hR hk (fun h' hh => ⟨rfl, hh⟩), fun pre h hb hR => R_spelt hb hR hk (fun h' hh => ⟨rfl, hh⟩)⟩
theorem J_root (A : AS) (v : Int32) : JO n_Z_root n_M_root [.int v] A := by
  rcases i32_cases v with hn | ⟨k, hk, rfl⟩
  · exact ⟨_, _, fun suf h hR => C_root_neg hR hn (fun h' hh => ⟨rfl, hh⟩), fun pre h hb hR => R_root_neg hb hR hn (fun h' hh => ⟨rfl, hh⟩)⟩
  · exact ⟨_, _, fun suf h hR => C_root hR hk (fun h' hh => ⟨rfl, hh⟩), fun pre h hb hR => R_root hb hR hk (fun h' hh => ⟨rfl, hh⟩)⟩
theorem J_longer (A : AS) (v : Int32) : JO n_Z_longer n_M_longer [.int v] A := by
  rcases i32_cases v with hn | ⟨k, hk, rfl⟩
  · exact ⟨_, _, fun suf h hR => C_longer_neg hR hn (fun h' hh => ⟨rfl, hh⟩), fun pre h hb hR => R_longer_neg hb hR hn (fun h' hh => ⟨rfl, hh⟩)⟩
  · exact ⟨_, _, fun suf h hR => C_longer hR hk (fun h' hh => ⟨rfl, hh⟩), fun pre h hb hR => R_longer hb hR hk (fun h' hh => ⟨rfl, hh⟩)⟩
theorem J_steadiest (A : AS) (v : Int32) : JO n_Z_steadiest n_M_steadiest [.int v] A := by
  rcases i32_cases v with hn | ⟨k, hk, rfl⟩
  · exact ⟨_, _, fun suf h hR => C_steadiest_neg hR hn (fun h' hh => ⟨rfl, hh⟩), fun pre h hb hR => R_steadiest_neg hb hR hn (fun h' hh => ⟨rfl, hh⟩)⟩
  · exact ⟨_, _, fun suf h hR => C_steadiest hR hk (fun h' hh => ⟨rfl, hh⟩), fun pre h hb hR => R_steadiest hb hR hk (fun h' hh => ⟨rfl, hh⟩)⟩
theorem J_count (A : AS) (v : Int32) : JO n_Z_count n_M_count [.int v] A := by
  rcases i32_cases v with hn | ⟨k, hk, rfl⟩
  · exact ⟨_, _, fun suf h hR => C_count_neg hR hn (fun h' hh => ⟨rfl, hh⟩), fun pre h hb hR => R_count_neg hb hR hn (fun h' hh => ⟨rfl, hh⟩)⟩
  · exact ⟨_, _, fun suf h hR => C_count hR hk (fun h' hh => ⟨rfl, hh⟩), fun pre h hb hR => R_count hb hR hk (fun h' hh => ⟨rfl, hh⟩)⟩
theorem J_told (A : AS) (v w : Int32) : JO n_Z_told n_M_told [.int v, .int w] A := by
  rcases i32_cases v with hn | ⟨k, hk, rfl⟩
  · exact ⟨_, _, fun suf h hR => C_told_neg hR (Or.inl hn) (fun h' hh => ⟨rfl, hh⟩), fun pre h hb hR => R_told_neg hb hR (Or.inl hn) (fun h' hh => ⟨rfl, hh⟩)⟩
  · rcases i32_cases w with hn | ⟨j, hj, rfl⟩
    · exact ⟨_, _, fun suf h hR => C_told_neg hR (Or.inr hn) (fun h' hh => ⟨rfl, hh⟩), fun pre h hb hR => R_told_neg hb hR (Or.inr hn) (fun h' hh => ⟨rfl, hh⟩)⟩
    · exact ⟨_, _, fun suf h hR => C_told hR hk hj (fun h' hh => ⟨rfl, hh⟩), fun pre h hb hR => R_told hb hR hk hj (fun h' hh => ⟨rfl, hh⟩)⟩
theorem J_graph (A : AS) (v w : Int32) : JO n_Z_graph n_M_graph [.int v, .int w] A := by
  rcases i32_cases v with hn | ⟨k, hk, rfl⟩
  · exact ⟨_, _, fun suf h hR => C_graph_neg hR (Or.inl hn) (fun h' hh => ⟨rfl, hh⟩), fun pre h hb hR => R_graph_neg hb hR (Or.inl hn) (fun h' hh => ⟨rfl, hh⟩)⟩
  · rcases i32_cases w with hn | ⟨j, hj, rfl⟩
    · exact ⟨_, _, fun suf h hR => C_graph_neg hR (Or.inr hn) (fun h' hh => ⟨rfl, hh⟩), fun pre h hb hR => R_graph_neg hb hR (Or.inr hn) (fun h' hh => ⟨rfl, hh⟩)⟩
    · exact ⟨_, _, fun suf h hR => C_graph hR hk hj (fun h' hh => ⟨rfl, hh⟩), fun pre h hb hR => R_graph hb hR hk hj (fun h' hh => ⟨rfl, hh⟩)⟩
theorem J_piece (A : AS) (v w : Int32) : JO n_Z_piece n_M_piece [.int v, .int w] A := by
  rcases i32_cases v with hn | ⟨k, hk, rfl⟩
  · exact ⟨_, _, fun suf h hR => C_piece_neg hR (Or.inl hn) (fun h' hh => ⟨rfl, hh⟩), fun pre h hb hR => R_piece_neg hb hR (Or.inl hn) (fun h' hh => ⟨rfl, hh⟩)⟩
  · rcases i32_cases w with hn | ⟨j, hj, rfl⟩
    · exact ⟨_, _, fun suf h hR => C_piece_neg hR (Or.inr hn) (fun h' hh => ⟨rfl, hh⟩), fun pre h hb hR => R_piece_neg hb hR (Or.inr hn) (fun h' hh => ⟨rfl, hh⟩)⟩
    · exact ⟨_, _, fun suf h hR => C_piece hR hk hj (fun h' hh => ⟨rfl, hh⟩), fun pre h hb hR => R_piece hb hR hk hj (fun h' hh => ⟨rfl, hh⟩)⟩
theorem J_kin (A : AS) (v w : Int32) : JO n_Z_kin n_M_kin [.int v, .int w] A := by
  rcases i32_cases v with hn | ⟨k, hk, rfl⟩
  · exact ⟨_, _, fun suf h hR => C_kin_neg hR (Or.inl hn) (fun h' hh => ⟨rfl, hh⟩), fun pre h hb hR => R_kin_neg hb hR (Or.inl hn) (fun h' hh => ⟨rfl, hh⟩)⟩
  · rcases i32_cases w with hn | ⟨j, hj, rfl⟩
    · exact ⟨_, _, fun suf h hR => C_kin_neg hR (Or.inr hn) (fun h' hh => ⟨rfl, hh⟩), fun pre h hb hR => R_kin_neg hb hR (Or.inr hn) (fun h' hh => ⟨rfl, hh⟩)⟩
    · exact ⟨_, _, fun suf h hR => C_kin hR hk hj (fun h' hh => ⟨rfl, hh⟩), fun pre h hb hR => R_kin hb hR hk hj (fun h' hh => ⟨rfl, hh⟩)⟩
theorem J_lasting (A : AS) (v w : Int32) : JO n_Z_lasting n_M_lasting [.int v, .int w] A := by
  rcases i32_cases v with hn | ⟨k, hk, rfl⟩
  · exact ⟨_, _, fun suf h hR => C_lasting_neg hR (Or.inl hn) (fun h' hh => ⟨rfl, hh⟩), fun pre h hb hR => R_lasting_neg hb hR (Or.inl hn) (fun h' hh => ⟨rfl, hh⟩)⟩
  · rcases i32_cases w with hn | ⟨j, hj, rfl⟩
    · exact ⟨_, _, fun suf h hR => C_lasting_neg hR (Or.inr hn) (fun h' hh => ⟨rfl, hh⟩), fun pre h hb hR => R_lasting_neg hb hR (Or.inr hn) (fun h' hh => ⟨rfl, hh⟩)⟩
    · exact ⟨_, _, fun suf h hR => C_lasting hR hk hj (fun h' hh => ⟨rfl, hh⟩), fun pre h hb hR => R_lasting hb hR hk hj (fun h' hh => ⟨rfl, hh⟩)⟩
theorem J_act (A : AS) (v w u : Int32) : JO n_Z_act n_M_act [.int v, .int w, .int u] A := by
  rcases i32_cases v with hn | ⟨k, hk, rfl⟩
  · exact ⟨_, _, fun suf h hR => C_act_neg hR (Or.inl hn) (fun h' hh => ⟨rfl, hh⟩), fun pre h hb hR => R_act_neg hb hR (Or.inl hn) (fun h' hh => ⟨rfl, hh⟩)⟩
  · rcases i32_cases w with hn | ⟨j, hj, rfl⟩
    · exact ⟨_, _, fun suf h hR => C_act_neg hR (Or.inr (Or.inl hn)) (fun h' hh => ⟨rfl, hh⟩), fun pre h hb hR => R_act_neg hb hR (Or.inr (Or.inl hn)) (fun h' hh => ⟨rfl, hh⟩)⟩
    · rcases i32_cases u with hn | ⟨i, hi, rfl⟩
      · exact ⟨_, _, fun suf h hR => C_act_neg hR (Or.inr (Or.inr hn)) (fun h' hh => ⟨rfl, hh⟩), fun pre h hb hR => R_act_neg hb hR (Or.inr (Or.inr hn)) (fun h' hh => ⟨rfl, hh⟩)⟩
      · exact ⟨_, _, fun suf h hR => C_act hR hk hj hi (fun h' hh => ⟨rfl, hh⟩), fun pre h hb hR => R_act hb hR hk hj hi (fun h' hh => ⟨rfl, hh⟩)⟩
theorem J_bar (A : AS) (v w : Int32) : JO n_Z_bar n_M_bar [.int v, .int w] A := by
  rcases i32_cases w with hn | ⟨j, hj, rfl⟩
  · exact ⟨_, _, fun suf h hR => C_bar_neg hR (Or.inr hn) (fun h' hh => ⟨rfl, hh⟩), fun pre h hb hR => R_bar_neg hb hR (Or.inr hn) (fun h' hh => ⟨rfl, hh⟩)⟩
  · rcases i32_cases v with hn | ⟨k, hk, rfl⟩
    · by_cases h3 : v < -3
      · exact ⟨_, _, fun suf h hR => C_bar_neg hR (Or.inl h3) (fun h' hh => ⟨rfl, hh⟩), fun pre h hb hR => R_bar_neg hb hR (Or.inl h3) (fun h' hh => ⟨rfl, hh⟩)⟩
      · rcases i32_m3 hn h3 with e | e | e
        · subst e; exact ⟨_, _, fun suf h hR => C_bar1 hR hj (fun h' hh => ⟨rfl, hh⟩), fun pre h hb hR => R_bar1 hb hR hj (fun h' hh => ⟨rfl, hh⟩)⟩
        · subst e; exact ⟨_, _, fun suf h hR => C_bar2 hR hj (fun h' hh => ⟨rfl, hh⟩), fun pre h hb hR => R_bar2 hb hR hj (fun h' hh => ⟨rfl, hh⟩)⟩
        · subst e; exact ⟨_, _, fun suf h hR => C_bar3 hR hj (fun h' hh => ⟨rfl, hh⟩), fun pre h hb hR => R_bar3 hb hR hj (fun h' hh => ⟨rfl, hh⟩)⟩
    · exact ⟨_, _, fun suf h hR => C_bar hR hk hj (fun h' hh => ⟨rfl, hh⟩), fun pre h hb hR => R_bar hb hR hk hj (fun h' hh => ⟨rfl, hh⟩)⟩
def RIS (A : AS) (suf : mH) : Prop := ∃ tn ap wb tx sq pa ke to wg we th pcs brs be po ro kf bg en, suf = mR 49 [] tn A.1 A.2.2.2.1 A.2.2.2.2.2.1 ap wb tx sq pa ke to wg we th pcs brs be po ro kf bg en ∧ RI A tx sq pa ke ∧ SB ro kf
def JA (A : AS) (h : mH) : Prop := ∃ suf, RIS A suf ∧ CIA suf A h
/-- behind the class's call -/
theorem JA_mid {A A' : AS} {suf h : mH} (hS : RIS A suf) (hC : CIA suf A' h) : ∃ pre, pre.length = 49 ∧ RIA 49 pre A h ∧ ∀ h2, RIA 49 pre A' h2 → JA A' h2 := by
  obtain ⟨tn, ap, wb, tx, sq, pa, ke, to, wg, we, th, pcs, brs, be, po, ro, kf, bg, en, rfl, hI, hB⟩ := hS
  obtain ⟨ta, ra, qn, qa, σ, us, ρ, ks, pts, edg, nr, rt, sc, wf, ws, bsz, bop, bbg, ben, ptx, edx, nrx, rtx, scx, wfx, wsx, bsx, box, bbx, bex, rfl, hc⟩ := hC
  refine ⟨zW A'.1 ta A'.2.2.1.1 ra qn qa A'.2.2.2.1 σ us A'.2.2.2.2.2.1 ρ ks pts edg nr rt sc wf ws bsz bop bbg ben ptx edx nrx rtx scx wfx wsx bsx box bbx bex [], rfl, ⟨tn, ap, wb, tx, sq, pa, ke, to, wg, we, th, pcs, brs, be, po, ro, kf, bg, en, rfl, hI, hB⟩, fun h2 hR => ?_⟩
  obtain ⟨tn2, ap2, wb2, tx2, sq2, pa2, ke2, to2, wg2, we2, th2, pcs2, brs2, be2, po2, ro2, kf2, bg2, en2, rfl, hI2, hB2⟩ := hR
  exact ⟨_, ⟨tn2, ap2, wb2, tx2, sq2, pa2, ke2, to2, wg2, we2, th2, pcs2, brs2, be2, po2, ro2, kf2, bg2, en2, rfl, hI2, hB2⟩, ta, ra, qn, qa, σ, us, ρ, ks, pts, edg, nr, rt, sc, wf, ws, bsz, bop, bbg, ben, ptx, edx, nrx, rtx, scx, wfx, wsx, bsx, box, bbx, bex, rfl, hc⟩
