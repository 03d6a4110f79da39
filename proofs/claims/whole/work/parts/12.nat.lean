/-! Numbers: all that the objects hold are natural numbers below 2^31. -/
def nA (g : Nat → Nat) : Nat → Int32 := fun j => nI (g j)
def uN' (g : Nat → Nat) (k x : Nat) : Nat → Nat := fun j => if j = k then x else g j
def uG (G : Nat → Nat → Nat) (k : Nat) (g : Nat → Nat) : Nat → Nat → Nat := fun j => if j = k then g else G j
theorem nA_upd (g : Nat → Nat) (k x : Nat) : upd (nA g) k (nI x) = nA (uN' g k x) := by
  funext j
  unfold upd nA uN'
  by_cases h : j = k <;> simp [h]
theorem uN_s {g : Nat → Nat} {k x : Nat} : uN' g k x k = x := by simp [uN']
theorem uN_n {g : Nat → Nat} {k x j : Nat} (h : j ≠ k) : uN' g k x j = g j := by simp [uN', h]
theorem uG_s {G : Nat → Nat → Nat} {k : Nat} {g : Nat → Nat} : uG G k g k = g := by simp [uG]
theorem uG_n {G : Nat → Nat → Nat} {k j : Nat} {g : Nat → Nat} (h : j ≠ k) : uG G k g j = G j := by simp [uG, h]
/-- a without what m has -/
def nd (a m : Nat) : Nat := a ^^^ (a &&& m)
theorem nd_bit (a m i : Nat) : (nd a m).testBit i = (a.testBit i && !m.testBit i) := by
  unfold nd
  rw [Nat.testBit_xor, Nat.testBit_and]
  cases a.testBit i <;> cases m.testBit i <;> rfl
theorem nI_bv (a : Nat) : (nI a).toBitVec = BitVec.ofNat 32 a := rfl
theorem i32_ext {x y : Int32} (h : x.toBitVec = y.toBitVec) : x = y := Int32.toBitVec_inj.mp h
theorem bvN_and (a b : Nat) : BitVec.ofNat 32 a &&& BitVec.ofNat 32 b = BitVec.ofNat 32 (a &&& b) := by
  apply BitVec.eq_of_getLsbD_eq
  intro i hi
  simp [hi, Nat.testBit_and]
theorem bvN_or (a b : Nat) : BitVec.ofNat 32 a ||| BitVec.ofNat 32 b = BitVec.ofNat 32 (a ||| b) := by
  apply BitVec.eq_of_getLsbD_eq
  intro i hi
  simp [hi, Nat.testBit_or]
theorem bvN_xor (a b : Nat) : BitVec.ofNat 32 a ^^^ BitVec.ofNat 32 b = BitVec.ofNat 32 (a ^^^ b) := by
  apply BitVec.eq_of_getLsbD_eq
  intro i hi
  simp [hi, Nat.testBit_xor]
theorem nN_and (a b : Nat) : nI a &&& nI b = nI (a &&& b) := i32_ext (by rw [Int32.toBitVec_and, nI_bv, nI_bv, nI_bv, bvN_and])
theorem nN_or (a b : Nat) : nI a ||| nI b = nI (a ||| b) := i32_ext (by rw [Int32.toBitVec_or, nI_bv, nI_bv, nI_bv, bvN_or])
theorem nN_xor (a b : Nat) : nI a ^^^ nI b = nI (a ^^^ b) := i32_ext (by rw [Int32.toBitVec_xor, nI_bv, nI_bv, nI_bv, bvN_xor])
theorem nN_andn (a m : Nat) : nI a &&& (nI m ^^^ (-1)) = nI (nd a m) := by
  apply i32_ext
  rw [Int32.toBitVec_and, Int32.toBitVec_xor, nI_bv, nI_bv, nI_bv]
  apply BitVec.eq_of_getLsbD_eq
  intro i hi
  have e : (-1 : Int32).toBitVec = BitVec.allOnes 32 := by decide
  rw [e]
  simp only [BitVec.getLsbD_and, BitVec.getLsbD_xor, BitVec.getLsbD_ofNat, BitVec.getLsbD_allOnes, hi, decide_true, Bool.true_and, nd_bit]
  cases a.testBit i <;> cases m.testBit i <;> rfl
theorem nN_shl {a k : Nat} (hk : k < 31) (h : a <<< k < 2 ^ 32) : nI a <<< (nI k &&& 31) = nI (a <<< k) := by
  have e : ((nI k &&& 31).toBitVec.smod 32).toNat = k := by
    have : ∀ n : Fin 31, ((nI n.val &&& 31).toBitVec.smod 32).toNat = n.val := by decide
    exact this ⟨k, hk⟩
  rw [Nat.shiftLeft_eq] at h ⊢
  exact pk_shlN (nI k &&& 31) k e h
theorem nN_shr {a k : Nat} (ha : a < 2 ^ 31) (hk : k < 32) : nI a >>> (nI k &&& 31) = nI (a >>> k) := by
  have e : ((nI k &&& 31).toBitVec.smod 32).toNat = k := by
    have : ∀ n : Fin 32, ((nI n.val &&& 31).toBitVec.smod 32).toNat = n.val := by decide
    exact this ⟨k, hk⟩
  rw [Nat.shiftRight_eq_div_pow]
  exact pk_shrN ha (nI k &&& 31) k e
theorem nN_ushr {a k : Nat} (ha : a < 2 ^ 32) (hk : k < 32) : ((nI a).toUInt32 >>> ((nI k).toUInt32 &&& Int32.toUInt32 31)).toInt32 = nI (a >>> k) := by
  have e : (((nI k).toUInt32 &&& Int32.toUInt32 31).toBitVec % 32).toNat = k := by
    have : ∀ n : Fin 32, (((nI n.val).toUInt32 &&& Int32.toUInt32 31).toBitVec % 32).toNat = n.val := by decide
    exact this ⟨k, hk⟩
  have e2 : (((nI k).toUInt32 &&& Int32.toUInt32 31 &&& Int32.toUInt32 31).toBitVec % 32).toNat = k := by
    have : ∀ n : Fin 32, (((nI n.val).toUInt32 &&& Int32.toUInt32 31 &&& Int32.toUInt32 31).toBitVec % 32).toNat = n.val := by decide
    exact this ⟨k, hk⟩
  rw [Nat.shiftRight_eq_div_pow]
  exact pk_ushrN ha (nI k) k e
theorem bit_and1 (a k : Nat) : (a >>> k) &&& 1 = if a.testBit k then 1 else 0 := by
  rw [Nat.testBit, Nat.and_comm]
  have h1 : 1 &&& (a >>> k) = (a >>> k) % 2 := by rw [Nat.and_comm]; exact Nat.and_one_is_mod _
  rw [h1]
  rcases Nat.mod_two_eq_zero_or_one (a >>> k) with h | h <;> simp [h]
theorem sh_bit (k i : Nat) : (1 <<< k).testBit i = decide (i = k) := by
  rw [Nat.one_shiftLeft, Nat.testBit_two_pow]
  by_cases h : k = i
  · simp [h]
  · simp [h]; exact fun q => h q.symm
theorem lt_of_bits {x n : Nat} (h : ∀ i, n ≤ i → x.testBit i = false) : x < 2 ^ n := Nat.lt_pow_two_of_testBit x h
theorem bit_lt {x n i : Nat} (h : x < 2 ^ n) (hi : n ≤ i) : x.testBit i = false := Nat.testBit_lt_two_pow (Nat.lt_of_lt_of_le h (Nat.pow_le_pow_right (by decide) hi))
theorem nd_lt {a m n : Nat} (h : a < 2 ^ n) : nd a m < 2 ^ n := lt_of_bits fun i hi => by rw [nd_bit, bit_lt h hi]; rfl
theorem or_lt {a m n : Nat} (h : a < 2 ^ n) (h2 : m < 2 ^ n) : a ||| m < 2 ^ n := Nat.or_lt_two_pow h h2
theorem sh_lt {k n : Nat} (h : k < n) : 1 <<< k < 2 ^ n := by rw [Nat.one_shiftLeft]; exact Nat.pow_lt_pow_right (by decide) h
