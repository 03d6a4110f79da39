/-! An abstract machine over heaps whose references are places in a list. An entry of a method's table: the instruction, the next place, three numbers (target, class, callee ..) -/
abbrev mE : Type := Instr × Nat × Nat × Nat × Nat
abbrev mH : Type := List va_E
def mfetch : List (Nat × mE) → Nat → Option mE
  | [], _ => none
  | q :: t, pc => match Nat.beq q.1 pc with
    | true => some q.2
    | false => mfetch t pc
theorem mfetch_mem {C : List (Nat × mE)} {pc : Nat} {e : mE} (h : mfetch C pc = some e) : (pc, e) ∈ C := by
  induction C with
  | nil => cases h
  | cons q t ih =>
    unfold mfetch at h
    split at h
    next hq =>
      have e1 : q.1 = pc := Nat.eq_of_beq_eq_true hq
      have e2 : q.2 = e := Option.some.inj h
      rw [← e1, ← e2]
      exact List.mem_cons_self
    next => exact List.mem_cons_of_mem _ (ih h)
def m_p1 (st : List Value) (f : Int32 → List Value → Prop) : Prop := match st with
  | .int a :: r => f a r
  | _ => False
def m_p2 (st : List Value) (f : Int32 → Int32 → List Value → Prop) : Prop := match st with
  | .int b :: .int a :: r => f a b r
  | _ => False
def m_pR (st : List Value) (f : Nat → List Value → Prop) : Prop := match st with
  | .ref a :: r => f a r
  | _ => False
/-- a reference or null -/
def m_pA (st : List Value) (f : Value → List Value → Prop) : Prop := match st with
  | .ref a :: r => f (.ref a) r
  | .null :: r => f .null r
  | _ => False
def m_pV (st : List Value) (f : Value → List Value → Prop) : Prop := match st with
  | v :: r => v.category = 1 ∧ f v r
  | _ => False
def m_pVV (st : List Value) (f : Value → Value → List Value → Prop) : Prop := match st with
  | v :: w :: r => v.category = 1 ∧ w.category = 1 ∧ f v w r
  | _ => False
def m_lI (lv : List Value) (j : Nat) (f : Int32 → Prop) : Prop := match lv[j]? with
  | some (.int a) => f a
  | _ => False
def m_lA (lv : List Value) (j : Nat) (f : Value → Prop) : Prop := match lv[j]? with
  | some (.ref a) => f (.ref a)
  | some .null => f .null
  | _ => False
def m_gO (h : mH) (a : Nat) (f : Nat → List Value → Prop) : Prop := match h[a]? with
  | some (.inr o) => f o.1 o.2
  | _ => False
def m_gA (h : mH) (a t : Nat) (f : Nat → (Nat → Int32) → Prop) : Prop := match h[a]? with
  | some (.inl (u, n, .inl g)) => u = t ∧ f n g
  | _ => False
def m_gQ (h : mH) (a : Nat) (f : Nat → (Nat → Option Nat) → Prop) : Prop := match h[a]? with
  | some (.inl (u, n, .inr (.inr (.inr (.inr g))))) => u = 2 ∧ f n g
  | _ => False
/-- how long an array is (its kind is 0, 1 or 2) -/
def m_gL (h : mH) (a : Nat) (f : Nat → Prop) : Prop := match h[a]? with
  | some (.inl (u, n, _)) => u < 3 ∧ f n
  | _ => False
def m_sw (pc : Nat) (d lo hi : Int) (offs : Array Int) (a : Int32) : Nat := if a.toInt < lo ∨ hi < a.toInt then ((pc : Int) + d).toNat else ((pc : Int) + (offs[(a.toInt - lo).toNat]?).getD 0).toNat
def m_lk (pc : Nat) (d : Int) (ps : Array (Int × Int)) (a : Int32) : Nat := ((pc : Int) + Op.lookupswitch.offset ps.toList d a.toInt).toNat
def m_rt (rt : Option FieldType) (a : Int32) : Prop := match rt with
  | some .int => True
  | some .boolean => a = 0 ∨ a = 1
  | _ => False
def m_ra (rt : Option FieldType) : Prop := match rt with
  | some (.object _) => True
  | _ => False
abbrev mK : Type := Nat → List Value → List Value → mH → Prop
abbrev mC : Type := Nat → List Value → mH → (Option Value → mH → Prop) → Prop
def m_call (k : mK) (cal : mC) (nx x y : Nat) (lv st : List Value) (h : mH) : Prop :=
  y ≤ st.length ∧ ((st.drop y).map fun v => v.category).sum ≤ 8 ∧ ∃ P : Option Value → mH → Prop, cal x (st.take y).reverse h P ∧ ∀ r h', P r h' → k nx lv (r.toList ++ st.drop y) h'
/-- a static call; Math.max and Math.min are told by 1 and 2 -/
def m_stat (k : mK) (cal : mC) (nx x y z : Nat) (lv st : List Value) (h : mH) : Prop := match z with
  | 0 => m_call k cal nx x y lv st h
  | 1 => m_p2 st fun a b r => (r.map fun v => v.category).sum ≤ 8 ∧ k nx lv (.int (if a < b then b else a) :: r) h
  | _ => m_p2 st fun a b r => (r.map fun v => v.category).sum ≤ 8 ∧ k nx lv (.int (if b < a then b else a) :: r) h
def m_br (c : Prop) (a b : Prop) : Prop := (c → a) ∧ (¬ c → b)
def stp (k : mK) (cal : mC) (rt : Option FieldType) (Q : Option Value → mH → Prop) (pc : Nat) (e : mE) (lv st : List Value) (h : mH) : Prop :=
  match e.1 with
  | .aconst_null => k e.2.1 lv (.null :: st) h
  | .iconst n => k e.2.1 lv (.int (Int32.ofInt n) :: st) h
  | .bipush n => k e.2.1 lv (.int (Int8.ofInt n).toInt32 :: st) h
  | .sipush n => k e.2.1 lv (.int (Int16.ofInt n).toInt32 :: st) h
  | .ldc_w _ => k e.2.1 lv (.int (nI e.2.2.1) :: st) h
  | .iload j => m_lI lv j fun a => k e.2.1 lv (.int a :: st) h
  | .iload_n j => m_lI lv j.val fun a => k e.2.1 lv (.int a :: st) h
  | .aload j => m_lA lv j fun v => k e.2.1 lv (v :: st) h
  | .aload_n j => m_lA lv j.val fun v => k e.2.1 lv (v :: st) h
  | .istore j => m_p1 st fun a r => j < lv.length ∧ k e.2.1 (lv.set j (.int a)) r h
  | .istore_n j => m_p1 st fun a r => j.val < lv.length ∧ k e.2.1 (lv.set j.val (.int a)) r h
  | .astore j => m_pA st fun v r => j < lv.length ∧ k e.2.1 (lv.set j v) r h
  | .astore_n j => m_pA st fun v r => j.val < lv.length ∧ k e.2.1 (lv.set j.val v) r h
  | .iinc j n => m_lI lv j fun a => k e.2.1 (lv.set j (.int (a + Int32.ofInt n))) st h
  | .iadd => m_p2 st fun a b r => k e.2.1 lv (.int (a + b) :: r) h
  | .isub => m_p2 st fun a b r => k e.2.1 lv (.int (a - b) :: r) h
  | .imul => m_p2 st fun a b r => k e.2.1 lv (.int (a * b) :: r) h
  | .iand => m_p2 st fun a b r => k e.2.1 lv (.int (a &&& b) :: r) h
  | .ior => m_p2 st fun a b r => k e.2.1 lv (.int (a ||| b) :: r) h
  | .ixor => m_p2 st fun a b r => k e.2.1 lv (.int (a ^^^ b) :: r) h
  | .idiv => m_p2 st fun a b r => ¬ b = 0 ∧ k e.2.1 lv (.int (a / b) :: r) h
  | .irem => m_p2 st fun a b r => ¬ b = 0 ∧ k e.2.1 lv (.int (a - a / b * b) :: r) h
  | .ishl => m_p2 st fun a b r => k e.2.1 lv (.int (a <<< (b &&& 31)) :: r) h
  | .ishr => m_p2 st fun a b r => k e.2.1 lv (.int (a >>> (b &&& 31)) :: r) h
  | .iushr => m_p2 st fun a b r => k e.2.1 lv (.int (a.toUInt32 >>> (b.toUInt32 &&& Int32.toUInt32 31)).toInt32 :: r) h
  | .i2b => m_p1 st fun a r => k e.2.1 lv (.int a.toInt8.toInt32 :: r) h
  | .dup => m_pV st fun v r => k e.2.1 lv (v :: v :: r) h
  | .dup2 => m_pVV st fun v w r => k e.2.1 lv (v :: w :: v :: w :: r) h
  | .pop => m_pV st fun _ r => k e.2.1 lv r h
  | .getfield _ => m_pR st fun a r => m_gO h a fun ci fs => ci = e.2.2.1 ∧ ∃ v, fs[e.2.2.2.1]? = some v ∧ k e.2.1 lv (v :: r) h
  | .putfield _ => m_p1 st fun v r => m_pR r fun a r => m_gO h a fun ci fs => ci = e.2.2.1 ∧ e.2.2.2.1 < fs.length ∧ k e.2.1 lv r (h.set a (.inr (ci, fs.set e.2.2.2.1 (.int v))))
  | .iaload => m_p1 st fun i r => m_pR r fun a r => m_gA h a 0 fun n f => vp_in i n ∧ k e.2.1 lv (.int (f i.toNatClampNeg) :: r) h
  | .baload => m_p1 st fun i r => m_pR r fun a r => m_gA h a 1 fun n f => vp_in i n ∧ k e.2.1 lv (.int (f i.toNatClampNeg) :: r) h
  | .iastore => m_p1 st fun v r => m_p1 r fun i r => m_pR r fun a r => m_gA h a 0 fun n f => vp_in i n ∧ k e.2.1 lv r (h.set a (.inl (0, n, .inl (upd f i.toNatClampNeg v))))
  | .bastore => m_p1 st fun v r => m_p1 r fun i r => m_pR r fun a r => m_gA h a 1 fun n f => vp_in i n ∧ k e.2.1 lv r (h.set a (.inl (1, n, .inl (upd f i.toNatClampNeg (vp_nar .byte v)))))
  | .aaload => m_p1 st fun i r => m_pR r fun a r => m_gQ h a fun n g => vp_in i n ∧ k e.2.1 lv (va_rf (g i.toNatClampNeg) :: r) h
  | .aastore => m_pR st fun v r => m_p1 r fun i r => m_pR r fun a r => m_gQ h a fun n g => m_gO h v fun ci _ => ci = 3 ∧ vp_in i n ∧ k e.2.1 lv r (h.set a (.inl (2, n, .inr (.inr (.inr (.inr (va_up g i.toNatClampNeg (some v))))))))
  | .arraylength => m_pR st fun a r => m_gL h a fun n => k e.2.1 lv (.int (nI n) :: r) h
  | .goto _ => k e.2.2.1 lv st h
  | .ifCond .eq _ => m_p1 st fun a r => (a = 0 → k e.2.2.1 lv r h) ∧ (¬ a = 0 → k e.2.1 lv r h)
  | .ifCond .ne _ => m_p1 st fun a r => (¬ a = 0 → k e.2.2.1 lv r h) ∧ (a = 0 → k e.2.1 lv r h)
  | .ifCond .lt _ => m_p1 st fun a r => (a < 0 → k e.2.2.1 lv r h) ∧ (¬ a < 0 → k e.2.1 lv r h)
  | .ifCond .ge _ => m_p1 st fun a r => (0 ≤ a → k e.2.2.1 lv r h) ∧ (¬ 0 ≤ a → k e.2.1 lv r h)
  | .ifCond .gt _ => m_p1 st fun a r => (0 < a → k e.2.2.1 lv r h) ∧ (¬ 0 < a → k e.2.1 lv r h)
  | .ifCond .le _ => m_p1 st fun a r => (a ≤ 0 → k e.2.2.1 lv r h) ∧ (¬ a ≤ 0 → k e.2.1 lv r h)
  | .if_icmp .eq _ => m_p2 st fun a b r => (a = b → k e.2.2.1 lv r h) ∧ (¬ a = b → k e.2.1 lv r h)
  | .if_icmp .ne _ => m_p2 st fun a b r => (¬ a = b → k e.2.2.1 lv r h) ∧ (a = b → k e.2.1 lv r h)
  | .if_icmp .lt _ => m_p2 st fun a b r => (a < b → k e.2.2.1 lv r h) ∧ (¬ a < b → k e.2.1 lv r h)
  | .if_icmp .ge _ => m_p2 st fun a b r => (b ≤ a → k e.2.2.1 lv r h) ∧ (¬ b ≤ a → k e.2.1 lv r h)
  | .if_icmp .gt _ => m_p2 st fun a b r => (b < a → k e.2.2.1 lv r h) ∧ (¬ b < a → k e.2.1 lv r h)
  | .if_icmp .le _ => m_p2 st fun a b r => (a ≤ b → k e.2.2.1 lv r h) ∧ (¬ a ≤ b → k e.2.1 lv r h)
  | .ifnull _ => m_pA st fun v r => (v = .null → k e.2.2.1 lv r h) ∧ (¬ v = .null → k e.2.1 lv r h)
  | .ifnonnull _ => m_pA st fun v r => (¬ v = .null → k e.2.2.1 lv r h) ∧ (v = .null → k e.2.1 lv r h)
  | .tableswitch d lo hi offs => m_p1 st fun a r => k (m_sw pc d lo hi offs a) lv r h
  | .lookupswitch d ps => m_p1 st fun a r => k (m_lk pc d ps a) lv r h
  | .ireturn => m_p1 st fun a r => r = [] ∧ m_rt rt a ∧ Q (some (.int a)) h
  | .areturn => m_pA st fun v r => r = [] ∧ m_ra rt ∧ Q (some v) h
  | .return_ => st = [] ∧ rt = none ∧ Q none h
  | .invokestatic _ => m_stat k cal e.2.1 e.2.2.1 e.2.2.2.1 e.2.2.2.2 lv st h
  | .invokevirtual _ => (∃ (b : Nat) (As : List Value), (st.take e.2.2.2.1).reverse = .ref b :: As ∧ m_gO h b fun ci _ => ci = e.2.2.2.2) ∧ m_call k cal e.2.1 e.2.2.1 e.2.2.2.1 lv st h
  | _ => False
theorem m_p1_mono {st : List Value} {f g : Int32 → List Value → Prop} (h : ∀ a r, f a r → g a r) : m_p1 st f → m_p1 st g := by
  unfold m_p1; split
  · exact h _ _
  · exact id
theorem m_p2_mono {st : List Value} {f g : Int32 → Int32 → List Value → Prop} (h : ∀ a b r, f a b r → g a b r) : m_p2 st f → m_p2 st g := by
  unfold m_p2; split
  · exact h _ _ _
  · exact id
theorem m_pR_mono {st : List Value} {f g : Nat → List Value → Prop} (h : ∀ a r, f a r → g a r) : m_pR st f → m_pR st g := by
  unfold m_pR; split
  · exact h _ _
  · exact id
theorem m_pA_mono {st : List Value} {f g : Value → List Value → Prop} (h : ∀ a r, f a r → g a r) : m_pA st f → m_pA st g := by
  unfold m_pA; split
  · exact h _ _
  · exact h _ _
  · exact id
theorem m_pV_mono {st : List Value} {f g : Value → List Value → Prop} (h : ∀ a r, f a r → g a r) : m_pV st f → m_pV st g := by
  unfold m_pV; split
  · exact And.imp_right (h _ _)
  · exact id
theorem m_pVV_mono {st : List Value} {f g : Value → Value → List Value → Prop} (h : ∀ a b r, f a b r → g a b r) : m_pVV st f → m_pVV st g := by
  unfold m_pVV; split
  · exact And.imp_right (And.imp_right (h _ _ _))
  · exact id
theorem m_lI_mono {lv : List Value} {j : Nat} {f g : Int32 → Prop} (h : ∀ a, f a → g a) : m_lI lv j f → m_lI lv j g := by
  unfold m_lI; split
  · exact h _
  · exact id
theorem m_lA_mono {lv : List Value} {j : Nat} {f g : Value → Prop} (h : ∀ a, f a → g a) : m_lA lv j f → m_lA lv j g := by
  unfold m_lA; split
  · exact h _
  · exact h _
  · exact id
theorem m_gO_mono {hp : mH} {a : Nat} {f g : Nat → List Value → Prop} (h : ∀ c fs, f c fs → g c fs) : m_gO hp a f → m_gO hp a g := by
  unfold m_gO; split
  · exact h _ _
  · exact id
theorem m_gA_mono {hp : mH} {a t : Nat} {f g : Nat → (Nat → Int32) → Prop} (h : ∀ c fs, f c fs → g c fs) : m_gA hp a t f → m_gA hp a t g := by
  unfold m_gA; split
  · exact And.imp_right (h _ _)
  · exact id
theorem m_gQ_mono {hp : mH} {a : Nat} {f g : Nat → (Nat → Option Nat) → Prop} (h : ∀ c fs, f c fs → g c fs) : m_gQ hp a f → m_gQ hp a g := by
  unfold m_gQ; split
  · exact And.imp_right (h _ _)
  · exact id
theorem m_gL_mono {hp : mH} {a : Nat} {f g : Nat → Prop} (h : ∀ c, f c → g c) : m_gL hp a f → m_gL hp a g := by
  unfold m_gL; split
  · exact And.imp_right (h _)
  · exact id
theorem m_call_mono {k k' : mK} {cal : mC} {nx x y : Nat} {lv st : List Value} {h : mH} (hk : ∀ pc lv st h, k pc lv st h → k' pc lv st h) : m_call k cal nx x y lv st h → m_call k' cal nx x y lv st h :=
  fun ⟨h1, h2, P, h3, h4⟩ => ⟨h1, h2, P, h3, fun r h' q => hk _ _ _ _ (h4 r h' q)⟩
theorem m_stat_mono {k k' : mK} {cal : mC} {nx x y z : Nat} {lv st : List Value} {h : mH} (hk : ∀ pc lv st h, k pc lv st h → k' pc lv st h) : m_stat k cal nx x y z lv st h → m_stat k' cal nx x y z lv st h := by
  unfold m_stat
  split
  · exact m_call_mono hk
  · exact m_p2_mono fun _ _ _ => And.imp_right (hk _ _ _ _)
  · exact m_p2_mono fun _ _ _ => And.imp_right (hk _ _ _ _)
set_option maxHeartbeats 1000000 in
theorem stp_mono {k k' : mK} {cal : mC} {rt : Option FieldType} {Q : Option Value → mH → Prop} {pc : Nat} {e : mE} {lv st : List Value} {h : mH} (hk : ∀ pc lv st h, k pc lv st h → k' pc lv st h) : stp k cal rt Q pc e lv st h → stp k' cal rt Q pc e lv st h := by
  obtain ⟨i, nx, x, y, z⟩ := e
  cases i with
  | aconst_null => exact hk _ _ _ _
  | iconst n => exact hk _ _ _ _
  | bipush n => exact hk _ _ _ _
  | sipush n => exact hk _ _ _ _
  | ldc_w n => exact hk _ _ _ _
  | iload j => exact m_lI_mono fun _ => hk _ _ _ _
  | iload_n j => exact m_lI_mono fun _ => hk _ _ _ _
  | aload j => exact m_lA_mono (f := fun v => k nx lv (v :: st) h) (g := fun v => k' nx lv (v :: st) h) fun _ => hk _ _ _ _
  | aload_n j => exact m_lA_mono (f := fun v => k nx lv (v :: st) h) (g := fun v => k' nx lv (v :: st) h) fun _ => hk _ _ _ _
  | istore j => exact m_p1_mono fun _ _ => And.imp_right (hk _ _ _ _)
  | istore_n j => exact m_p1_mono fun _ _ => And.imp_right (hk _ _ _ _)
  | astore j => exact m_pA_mono (f := fun v r => j < lv.length ∧ k nx (lv.set j v) r h) (g := fun v r => j < lv.length ∧ k' nx (lv.set j v) r h) fun _ _ => And.imp_right (hk _ _ _ _)
  | astore_n j => exact m_pA_mono (f := fun v r => j.val < lv.length ∧ k nx (lv.set j.val v) r h) (g := fun v r => j.val < lv.length ∧ k' nx (lv.set j.val v) r h) fun _ _ => And.imp_right (hk _ _ _ _)
  | iinc j n => exact m_lI_mono fun _ => hk _ _ _ _
  | iadd => exact m_p2_mono fun _ _ _ => hk _ _ _ _
  | isub => exact m_p2_mono fun _ _ _ => hk _ _ _ _
  | imul => exact m_p2_mono fun _ _ _ => hk _ _ _ _
  | iand => exact m_p2_mono fun _ _ _ => hk _ _ _ _
  | ior => exact m_p2_mono fun _ _ _ => hk _ _ _ _
  | ixor => exact m_p2_mono fun _ _ _ => hk _ _ _ _
  | idiv => exact m_p2_mono fun _ _ _ => And.imp_right (hk _ _ _ _)
  | irem => exact m_p2_mono fun _ _ _ => And.imp_right (hk _ _ _ _)
  | ishl => exact m_p2_mono fun _ _ _ => hk _ _ _ _
  | ishr => exact m_p2_mono fun _ _ _ => hk _ _ _ _
  | iushr => exact m_p2_mono fun _ _ _ => hk _ _ _ _
  | i2b => exact m_p1_mono fun _ _ => hk _ _ _ _
  | dup => exact m_pV_mono fun _ _ => hk _ _ _ _
  | dup2 => exact m_pVV_mono fun _ _ _ => hk _ _ _ _
  | pop => exact m_pV_mono fun _ _ => hk _ _ _ _
  | getfield n => exact m_pR_mono fun _ _ => m_gO_mono fun _ _ => And.imp_right (fun ⟨v, h1, h2⟩ => ⟨v, h1, hk _ _ _ _ h2⟩)
  | putfield n => exact m_p1_mono fun _ _ => m_pR_mono fun _ _ => m_gO_mono fun _ _ => And.imp_right (And.imp_right (hk _ _ _ _))
  | iaload => exact m_p1_mono fun _ _ => m_pR_mono fun _ _ => m_gA_mono fun _ _ => And.imp_right (hk _ _ _ _)
  | baload => exact m_p1_mono fun _ _ => m_pR_mono fun _ _ => m_gA_mono fun _ _ => And.imp_right (hk _ _ _ _)
  | iastore => exact m_p1_mono fun _ _ => m_p1_mono fun _ _ => m_pR_mono fun _ _ => m_gA_mono fun _ _ => And.imp_right (hk _ _ _ _)
  | bastore => exact m_p1_mono fun _ _ => m_p1_mono fun _ _ => m_pR_mono fun _ _ => m_gA_mono fun _ _ => And.imp_right (hk _ _ _ _)
  | aaload => exact m_p1_mono fun _ _ => m_pR_mono fun _ _ => m_gQ_mono fun _ _ => And.imp_right (hk _ _ _ _)
  | aastore => exact m_pR_mono fun _ _ => m_p1_mono fun _ _ => m_pR_mono fun _ _ => m_gQ_mono fun _ _ => m_gO_mono fun _ _ => And.imp_right (And.imp_right (hk _ _ _ _))
  | arraylength => exact m_pR_mono fun _ _ => m_gL_mono fun _ => hk _ _ _ _
  | goto n => exact hk _ _ _ _
  | ifCond c n => cases c <;> exact m_p1_mono fun _ _ => And.imp (fun h q => hk _ _ _ _ (h q)) (fun h q => hk _ _ _ _ (h q))
  | if_icmp c n => cases c <;> exact m_p2_mono fun _ _ _ => And.imp (fun h q => hk _ _ _ _ (h q)) (fun h q => hk _ _ _ _ (h q))
  | ifnull n => exact m_pA_mono (f := fun v r => (v = .null → k x lv r h) ∧ (¬ v = .null → k nx lv r h)) (g := fun v r => (v = .null → k' x lv r h) ∧ (¬ v = .null → k' nx lv r h)) fun _ _ => And.imp (fun h q => hk _ _ _ _ (h q)) (fun h q => hk _ _ _ _ (h q))
  | ifnonnull n => exact m_pA_mono (f := fun v r => (¬ v = .null → k x lv r h) ∧ (v = .null → k nx lv r h)) (g := fun v r => (¬ v = .null → k' x lv r h) ∧ (v = .null → k' nx lv r h)) fun _ _ => And.imp (fun h q => hk _ _ _ _ (h q)) (fun h q => hk _ _ _ _ (h q))
  | tableswitch d lo hi offs => exact m_p1_mono fun _ _ => hk _ _ _ _
  | lookupswitch d ps => exact m_p1_mono fun _ _ => hk _ _ _ _
  | invokestatic n => exact m_stat_mono hk
  | invokevirtual n => exact And.imp_right (m_call_mono hk)
  | _ => exact id
/-- what a method's code does from a place on: the least predicate that is closed under its instructions -/
def WP (cal : mC) (C : List (Nat × mE)) (rt : Option FieldType) (Q : Option Value → mH → Prop) (pc : Nat) (lv st : List Value) (h : mH) : Prop :=
  ∀ X : mK, (∀ pc lv st h e, mfetch C pc = some e → stp X cal rt Q pc e lv st h → X pc lv st h) → X pc lv st h
theorem WP.in {cal : mC} {C : List (Nat × mE)} {rt : Option FieldType} {Q : Option Value → mH → Prop} {pc : Nat} {lv st : List Value} {h : mH} {e : mE} (hf : mfetch C pc = some e) (hs : stp (WP cal C rt Q) cal rt Q pc e lv st h) : WP cal C rt Q pc lv st h :=
  fun X hX => hX pc lv st h e hf (stp_mono (fun _ _ _ _ w => w X hX) hs)
/-- a method: its name, code, locals, what it gives, its table -/
abbrev mM : Type := MethodName × ByteArray × Nat × Option FieldType × List (Nat × mE)
def m_c1 (a : List Value) : Bool := a.all fun v => Nat.beq v.category 1
def Rn (P : List mM) : Nat → mC
  | 0, _, _, _, _ => False
  | d + 1, M, a, h, Q => match P[M]? with
    | some (_, _, mL, rt, C) => m_c1 a = true ∧ Nat.ble a.length mL = true ∧ WP (Rn P d) C rt Q 0 (a ++ List.replicate (mL - a.length) (.long 0)) [] h
    | none => False
theorem Rn.in {P : List mM} {d M : Nat} {a : List Value} {h : mH} {Q : Option Value → mH → Prop} {y : MethodName} {b : ByteArray} {mL : Nat} {rt : Option FieldType} {C : List (Nat × mE)} (hM : P[M]? = some (y, b, mL, rt, C)) (h1 : m_c1 a = true) (h2 : Nat.ble a.length mL = true) (hw : WP (Rn P d) C rt Q 0 (a ++ List.replicate (mL - a.length) (.long 0)) [] h) : Rn P (d + 1) M a h Q := by
  unfold Rn
  rw [hM]
  exact ⟨h1, h2, hw⟩
