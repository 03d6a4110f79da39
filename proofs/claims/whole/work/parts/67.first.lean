/-! the first state -/
def gS (ac : Nat) (g : Nat × (Nat → Nat)) : Nat × (Nat → Nat) := if ac >>> 8 < 2 then (g.1 ^^^ 1 <<< (ac >>> 4 &&& 15), g.2) else (g.1, nrX g.2 (ac >>> 4 &&& 15) (ac &&& 15))
def gR (ra : Nat → Nat) : Nat → Nat × (Nat → Nat)
  | 0 => (0, fun _ => 0)
  | k + 1 => gS (ra k) (gR ra k)
theorem gR_eq (ra : Nat → Nat) : ∀ k, ((stR ra k).1, (stR ra k).2.2.1) = gR ra k
  | 0 => rfl
  | k + 1 => by
    have ih := gR_eq ra k
    show ((tS (ra k) (k + 1) (stR ra k)).1, (tS (ra k) (k + 1) (stR ra k)).2.2.1) = gS (ra k) (gR ra k)
    rw [← ih]
    unfold gS
    by_cases e : ra k >>> 8 < 2
    · obtain ⟨t1, t2, -⟩ := tS_g0 (k := k + 1) (τ := stR ra k) e
      rw [if_pos e, t1, t2]
    · obtain ⟨t1, t2⟩ := tS_g2 (k := k + 1) (τ := stR ra k) (by omega : 2 ≤ ra k >>> 8)
      rw [if_neg e, t1, t2]
theorem gR_may (ra : Nat → Nat) (k ac : Nat) : mayT (stR ra k) ac = mayB (gR ra k).1 (gR ra k).2 (ac >>> 8) (ac >>> 4 &&& 15) (ac &&& 15) := by
  unfold mayT
  rw [← gR_eq ra k]
def row0 : Nat → Nat := fun i => [0, 17, 34, 513, 51, 530, 769, 547, 256, 0, 515, 803, 513, 786, 290].getD i 0
def ftx : Nat → Nat := fun i => [118, 48, 59, 118, 49, 59, 118, 50, 59, 101, 48, 49, 59, 118, 51, 59, 101, 49, 50, 59, 102, 48, 49, 59, 101, 50, 51, 59, 119, 48, 59, 118, 48, 59, 101, 48, 51, 59, 102, 50, 51, 59, 101, 48, 49, 59, 102, 49, 50, 59, 119, 50, 59].getD i 0
def pl0 : Nat → Nat
  | 0 => 0
  | k + 1 => pl0 k + ilN (row0 k >>> 8)
set_option maxRecDepth 100000 in
theorem row0_ok : ∀ i : Fin 15, (row0 i.val < 1024 ∧ row0 i.val >>> 4 &&& 15 < 9 ∧ row0 i.val &&& 15 < 9 ∧ (row0 i.val >>> 8 < 2 → row0 i.val &&& 15 = row0 i.val >>> 4 &&& 15)) ∧ mayB (gR row0 i.val).1 (gR row0 i.val).2 (row0 i.val >>> 8) (row0 i.val >>> 4 &&& 15) (row0 i.val &&& 15) = true ∧ itA 53 ftx (pl0 i.val) = some (row0 i.val) ∧ pl0 i.val < 53 := by decide +kernel
theorem row0_RV : RV (15, row0) := ⟨by decide, fun i hi => (row0_ok ⟨i, hi⟩).1, fun i hi => by rw [gR_may]; exact (row0_ok ⟨i, hi⟩).2.1⟩
theorem rd_0 : ∀ n k ra, k + n = 15 → (∀ i, i < k → ra i = row0 i) → (rdg 53 ftx (n + 26) k (pl0 k) ra).1 = none ∧ EqR (rdg 53 ftx (n + 26) k (pl0 k) ra).2 (15, row0)
  | 0, k, ra, hk, h => by
    have e : k = 15 := hk
    subst e
    rw [show 0 + 26 = 25 + 1 from rfl, rdg_end (by decide)]
    exact ⟨rfl, rfl, h⟩
  | n + 1, k, ra, hk, h => by
    obtain ⟨-, h2, h3, h4⟩ := row0_ok ⟨k, by omega⟩
    have hm : mayT (stR ra k) (row0 k) = true := by rw [stR_congr (rb := row0) k h, gR_may]; exact h2
    rw [show n + 1 + 26 = n + 26 + 1 by omega, rdg_go h4 h3 ⟨by omega, hm⟩]
    refine rd_0 n (k + 1) _ (by omega) (fun i hi => ?_)
    by_cases e : i = k
    · rw [e, uN_s]
    · rw [uN_n e]; exact h i (by omega)
theorem rd_first {ta : Nat → Nat} (ht : ∀ i, i < 53 → ta i = ftx i) (qa : Nat → Nat) : (rdg 53 ta 41 0 0 qa).1 = none ∧ EqR (rdg 53 ta 41 0 0 qa).2 (15, row0) := by
  rw [rdg_text ht]
  exact rd_0 15 0 qa rfl (fun i hi => absurd hi (Nat.not_lt_zero i))
def A0 : AS := (0, fun _ => 0, (15, row0), 0, fun _ => (0, fun _ => 0), 0, fun _ => (0, fun _ => 0))
theorem SI_mod {N : Nat} (hN : 0 < N) : SI N (fun j => j % N) := ⟨fun j _ => Nat.mod_lt j hN, fun i j hi hj h => by
  have h : i % N = j % N := h
  rw [Nat.mod_eq_of_lt hi, Nat.mod_eq_of_lt hj] at h
  exact h⟩
/-- the class's heap when all its cells are made -/
def zN : Nat → Nat := fun _ => 0
theorem zN_lt (i : Nat) : zN i < 2 ^ 31 := show 0 < 2 ^ 31 by decide
def zF (tl : Nat) (ta : Nat → Nat) (suf : mH) : mH := zW tl ta 0 zN 0 zN 0 (fun j => j % 6) (fun _ => (0, zN)) 0 (fun j => j % 2) (fun _ => (0, zN)) 0 0 zN zN (fun _ _ => 0) zN zN 0 0 zN zN 0 0 zN zN (fun _ _ => 0) zN zN 0 0 zN zN suf
/-- text read, trial laid, text emptied -/
theorem first_read {d : Nat} {ta : Nat → Nat} {suf : mH} {Q : Option Value → mH → Prop} (ht : ∀ i, i < 53 → ta i = ftx i) (hQ : ∀ ptx' edx' nrx' qa, EqR (15, qa) (15, row0) → Q (some (.int (-4))) (zW 53 ta 0 zN 15 qa 0 (fun j => j % 6) (fun _ => (0, zN)) 0 (fun j => j % 2) (fun _ => (0, zN)) 0 0 zN zN (fun _ _ => 0) zN zN 0 0 zN zN ptx' edx' nrx' zN (fun _ _ => 0) zN zN 0 0 zN zN suf)) : Rn mprog (d + 5) n_Z_readText [.ref 0] (zF 53 ta suf) Q := by
  obtain ⟨h1, h2⟩ := rd_first ht zN
  have hb : ∀ i : Fin 53, ftx i.val < 127 := by decide +kernel
  refine r_Z_read (by decide) (fun i hi => by rw [ht i hi]; exact hb ⟨i, hi⟩) (fun ptx' edx' nrx' => ?_)
  have q := hQ ptx' edx' nrx' (rdg 53 ta 41 0 0 zN).2.2 ⟨rfl, fun i hi => h2.2 i (by rw [h2.1]; exact hi)⟩
  have e : (rdg 53 ta 41 0 0 zN).2.1 = 15 := h2.1
  rw [h1, e]
  exact q
theorem first_lay {d : Nat} {ta qa : Nat → Nat} {suf : mH} {ptx edx : Nat} {nrx : Nat → Nat} {Q : Option Value → mH → Prop} (hE : EqR (15, qa) (15, row0)) (hQ : ∀ h', CIA suf A0 (h') → True) (kk : ∀ pts edg nr rt sc wf ws bsz bop bbg ben, NI (15, row0) pts edg nr rt sc bsz bop bbg ben → Q none (zW 53 ta 15 (cpA qa zN 15) 15 qa 0 (fun j => j % 6) (fun _ => (0, zN)) 0 (fun j => j % 2) (fun _ => (0, zN)) pts edg nr rt sc wf ws bsz bop bbg ben ptx edx nrx zN (fun _ _ => 0) zN zN 0 0 zN zN suf)) : Rn mprog (d + 8) n_Z_layTrial [.ref 0] (zW 53 ta 0 zN 15 qa 0 (fun j => j % 6) (fun _ => (0, zN)) 0 (fun j => j % 2) (fun _ => (0, zN)) 0 0 zN zN (fun _ _ => 0) zN zN 0 0 zN zN ptx edx nrx zN (fun _ _ => 0) zN zN 0 0 zN zN suf) Q := by
  refine r_Z_layTrial (RV_congr hE row0_RV) (fun i _ => ⟨zN_lt i, zN_lt i⟩) (fun pts edg nr rt sc wf ws bsz bop bbg ben hN => kk pts edg nr rt sc wf ws bsz bop bbg ben (NI_congr hE hN))
theorem first_CIA {ta qa : Nat → Nat} {suf : mH} {ptx edx : Nat} {nrx : Nat → Nat} {pts edg bsz bop : Nat} {nr rt wf ws bbg ben : Nat → Nat} {sc : Nat → Nat → Nat} (hE : EqR (15, qa) (15, row0)) (hN : NI (15, row0) pts edg nr rt sc bsz bop bbg ben) : CIA suf A0 (zW 0 ta 15 (cpA qa zN 15) 15 qa 0 (fun j => j % 6) (fun _ => (0, zN)) 0 (fun j => j % 2) (fun _ => (0, zN)) pts edg nr rt sc wf ws bsz bop bbg ben ptx edx nrx zN (fun _ _ => 0) zN zN 0 0 zN zN suf) :=
  ⟨ta, cpA qa zN 15, 15, qa, _, _, _, _, pts, edg, nr, rt, sc, wf, ws, bsz, bop, bbg, ben, ptx, edx, nrx, zN, fun _ _ => 0, zN, zN, 0, 0, zN, zN, rfl, Nat.zero_le _, fun i hi => absurd hi (Nat.not_lt_zero i), row0_RV, fun i hi => by have hi : i < 15 := hi; rw [cpA_in hi]; exact hE.2 i hi, by decide, Nat.zero_le _, SI_mod (by decide), fun j hj => absurd hj (Nat.not_lt_zero j), Nat.zero_le _, SI_mod (by decide), fun j hj => absurd hj (Nat.not_lt_zero j), hN, fun i _ => ⟨zN_lt i, zN_lt i⟩⟩
/-- the reference's first row -/
def sq0 : Nat → Nat := fun i => [15, 0, 10, 20, 201, 30, 212, 301, 223, 100, 0, 203, 323, 201, 312, 120].getD i 0
theorem sq0_RR : RR sq0 (15, row0) := ⟨rfl, fun i hi => by
  have h : ∀ i : Fin 15, sq0 (i.val + 1) = cdA (row0 i.val) := by decide +kernel
  exact h ⟨i, hi⟩⟩
theorem first_RIS {suf : mH} (e : suf = mR 49 [] 0 0 0 0 0 0 zN sq0 zN zN zN zN zN 0 0 0 zN zN zN (fun _ _ => 0) zN zN) : RIS A0 suf :=
  ⟨0, 0, 0, zN, sq0, zN, zN, zN, zN, zN, 0, 0, 0, zN, zN, zN, fun _ _ => 0, zN, zN, e, ⟨Nat.zero_le _, fun i hi => absurd hi (Nat.not_lt_zero i), row0_RV, sq0_RR, Nat.zero_le _, fun j hj => absurd hj (Nat.not_lt_zero j), Nat.zero_le _, fun j hj => absurd hj (Nat.not_lt_zero j)⟩, fun p _ => show 0 < 1000 by decide, fun p q _ _ => show 0 < 1000 by decide⟩
