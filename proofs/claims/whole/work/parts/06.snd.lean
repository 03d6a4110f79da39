section SND
variable {p : Program} {l : Launch} {ev : Env} {R : Room} {s : State} {m : MethodId} {args : Array Value} {below : List Frame} {meth : Method} {c : Code}
variable {D : va_G} {cy ad : Nat → Nat} {A : Nat → Prop} {nL d : Nat} {bb : ByteArray} {own : String} {rt : Option FieldType} {P : List mM} {cal : mC} {Q : Option Value → mH → Prop} {Qc : Array Value → State → Outcome → State → Prop}
theorem cz_null (ad : Nat → Nat) {v : Value} (h : v = .null ∨ ∃ a, v = .ref a) : v.category = 1 := by
  rcases h with rfl | ⟨a, rfl⟩ <;> rfl
set_option maxHeartbeats 8000000 in
theorem snd_step (X : mCtx p l R s m args meth c D cy ad A nL d bb own rt P cal Q Qc) {pc : Nat} {e : mE} {lv st : List Value} {h : mH} (hi : insOK P own bb pc e)
    (hs : stp (mX p l ev R s m args below meth c D cy ad A nL (MQ below Qc args s 0 0 A)) cal rt Q pc e lv st h) : mX p l ev R s m args below meth c D cy ad A nL (MQ below Qc args s 0 0 A) pc lv st h := by
  have X0 := X
  obtain ⟨hx, hb, hml, hr, hown, hts, hlocks, hK, hA, hR, hPok, hN, hcal, hret⟩ := X
  obtain ⟨i, nx, x, y, z⟩ := e
  obtain ⟨⟨len, hd, hnx, hil⟩, hlk⟩ := hi
  dsimp only at hd hnx hil
  cases i with
  | aconst_null =>
    cases hil; subst hnx
    intro H locs ls hP hD hS hL
    exact lv_null hx hb hd (hs H locs ls hP hD hS hL)
  | iconst n =>
    cases hil; subst hnx
    intro H locs ls hP hD hS hL
    exact lv_iconst hx hb hd rfl (hs H locs ls hP hD hS hL)
  | bipush n =>
    cases hil; subst hnx
    intro H locs ls hP hD hS hL
    exact lv_bipush hx hb hd rfl (hs H locs ls hP hD hS hL)
  | sipush n =>
    cases hil; subst hnx
    intro H locs ls hP hD hS hL
    exact lv_sipush hx hb hd rfl (hs H locs ls hP hD hS hL)
  | ldc_w n =>
    cases hil; subst hnx
    intro H locs ls hP hD hS hL
    exact lv_ldcw hx hb hown (hts _ hlk) hd (hs H locs ls hP hD hS hL)
  | iload j =>
    cases hil; subst hnx
    obtain ⟨a, ha, hk⟩ := m_lI_inv hs
    intro H locs ls hP hD hS hL
    exact lv_iload hx hb hd (hL.2.2.2 j _ ha rfl) (hk H locs ls hP hD hS hL)
  | iload_n j =>
    cases hil; subst hnx
    obtain ⟨a, ha, hk⟩ := m_lI_inv hs
    intro H locs ls hP hD hS hL
    exact lv_iload_n hx hb hd rfl (hL.2.2.2 j.val _ ha rfl) (hk H locs ls hP hD hS hL)
  | aload j =>
    cases hil; subst hnx
    obtain ⟨v, ha, hv, hk⟩ := m_lA_inv (f := fun v => mX p l ev R s m args below meth c D cy ad A nL (MQ below Qc args s 0 0 A) (pc + 2) lv (v :: st) h) hs
    intro H locs ls hP hD hS hL
    have h1 := hL.2.2.2 j _ ha (cz_null ad hv)
    rcases hv with rfl | ⟨a, rfl⟩
    · exact lv_aloadN hx hb hd h1 (hk H locs ls hP hD hS hL)
    · exact lv_aload hx hb hd h1 (hk H locs ls hP hD hS hL)
  | aload_n j =>
    cases hil; subst hnx
    obtain ⟨v, ha, hv, hk⟩ := m_lA_inv (f := fun v => mX p l ev R s m args below meth c D cy ad A nL (MQ below Qc args s 0 0 A) (pc + 1) lv (v :: st) h) hs
    intro H locs ls hP hD hS hL
    have h1 := hL.2.2.2 j.val _ ha (cz_null ad hv)
    rcases hv with rfl | ⟨a, rfl⟩
    · exact lv_aload_nN hx hb hd rfl h1 (hk H locs ls hP hD hS hL)
    · exact lv_aload_n hx hb hd rfl h1 (hk H locs ls hP hD hS hL)
  | istore j =>
    cases hil; subst hnx
    obtain ⟨a, r, rfl, hj, hk⟩ := m_p1_inv hs
    intro H locs ls hP hD hS hL
    exact lv_istore hx hb hd hL.has (by rw [← hL.2.2.1]; exact hj) rfl (fun ls' h' => hk H locs ls' hP hD hS (hL.put (v := .int a) rfl rfl h'))
  | istore_n j =>
    cases hil; subst hnx
    obtain ⟨a, r, rfl, hj, hk⟩ := m_p1_inv hs
    intro H locs ls hP hD hS hL
    exact lv_istore_n hx hb hd rfl hL.has (by rw [← hL.2.2.1]; exact hj) rfl (fun ls' h' => hk H locs ls' hP hD hS (hL.put (v := .int a) rfl rfl h'))
  | astore j =>
    cases hil; subst hnx
    obtain ⟨v, r, rfl, hv, hj, hk⟩ := m_pA_inv (f := fun v r => j < lv.length ∧ mX p l ev R s m args below meth c D cy ad A nL (MQ below Qc args s 0 0 A) (pc + 2) (lv.set j v) r h) hs
    intro H locs ls hP hD hS hL
    rcases hv with rfl | ⟨a, rfl⟩
    · exact lv_astoreN hx hb hd hL.has (by rw [← hL.2.2.1]; exact hj) rfl (fun ls' h' => hk H locs ls' hP hD hS (hL.put (v := .null) rfl rfl h'))
    · exact lv_astore hx hb hd hL.has (by rw [← hL.2.2.1]; exact hj) rfl (fun ls' h' => hk H locs ls' hP hD hS (hL.put (v := .ref a) rfl rfl h'))
  | astore_n j =>
    cases hil; subst hnx
    obtain ⟨v, r, rfl, hv, hj, hk⟩ := m_pA_inv (f := fun v r => j.val < lv.length ∧ mX p l ev R s m args below meth c D cy ad A nL (MQ below Qc args s 0 0 A) (pc + 1) (lv.set j.val v) r h) hs
    intro H locs ls hP hD hS hL
    rcases hv with rfl | ⟨a, rfl⟩
    · exact lv_astore_nN hx hb hd rfl hL.has (by rw [← hL.2.2.1]; exact hj) rfl (fun ls' h' => hk H locs ls' hP hD hS (hL.put (v := .null) rfl rfl h'))
    · exact lv_astore_n hx hb hd rfl hL.has (by rw [← hL.2.2.1]; exact hj) rfl (fun ls' h' => hk H locs ls' hP hD hS (hL.put (v := .ref a) rfl rfl h'))
  | iinc j n =>
    cases hil; subst hnx
    obtain ⟨a, ha, hk⟩ := m_lI_inv hs
    intro H locs ls hP hD hS hL
    obtain ⟨k, hk2⟩ := List.getElem?_of_mem (prs_mem (ad := ad) ha rfl)
    have hjl : j < lv.length := (List.getElem?_eq_some_iff.mp ha).1
    exact lv_iinc hx hb hd hL.has hk2 rfl (by rw [← hL.2.2.1]; exact hjl) rfl (fun ls' h' => hk H locs ls' hP hD hS (hL.put (v := .int (a + Int32.ofInt n)) rfl rfl h'))
  | iadd =>
    cases hil; subst hnx
    obtain ⟨a, b, r, rfl, hk⟩ := m_p2_inv hs
    intro H locs ls hP hD hS hL
    exact lv_iadd hx hb hd (hk H locs ls hP hD hS hL)
  | isub =>
    cases hil; subst hnx
    obtain ⟨a, b, r, rfl, hk⟩ := m_p2_inv hs
    intro H locs ls hP hD hS hL
    exact lv_isub hx hb hd (hk H locs ls hP hD hS hL)
  | imul =>
    cases hil; subst hnx
    obtain ⟨a, b, r, rfl, hk⟩ := m_p2_inv hs
    intro H locs ls hP hD hS hL
    exact lv_imul hx hb hd (hk H locs ls hP hD hS hL)
  | iand =>
    cases hil; subst hnx
    obtain ⟨a, b, r, rfl, hk⟩ := m_p2_inv hs
    intro H locs ls hP hD hS hL
    exact lv_iand hx hb hd (hk H locs ls hP hD hS hL)
  | ior =>
    cases hil; subst hnx
    obtain ⟨a, b, r, rfl, hk⟩ := m_p2_inv hs
    intro H locs ls hP hD hS hL
    exact lv_ior hx hb hd (hk H locs ls hP hD hS hL)
  | ixor =>
    cases hil; subst hnx
    obtain ⟨a, b, r, rfl, hk⟩ := m_p2_inv hs
    intro H locs ls hP hD hS hL
    exact lv_ixor hx hb hd (hk H locs ls hP hD hS hL)
  | idiv =>
    cases hil; subst hnx
    obtain ⟨a, b, r, rfl, hne, hk⟩ := m_p2_inv hs
    intro H locs ls hP hD hS hL
    exact lv_idiv hx hb hd hne (hk H locs ls hP hD hS hL)
  | irem =>
    cases hil; subst hnx
    obtain ⟨a, b, r, rfl, hne, hk⟩ := m_p2_inv hs
    intro H locs ls hP hD hS hL
    exact lv_irem hx hb hd hne (hk H locs ls hP hD hS hL)
  | ishl =>
    cases hil; subst hnx
    obtain ⟨a, b, r, rfl, hk⟩ := m_p2_inv hs
    intro H locs ls hP hD hS hL
    exact lv_ishl hx hb hd (hk H locs ls hP hD hS hL)
  | ishr =>
    cases hil; subst hnx
    obtain ⟨a, b, r, rfl, hk⟩ := m_p2_inv hs
    intro H locs ls hP hD hS hL
    exact lv_ishr hx hb hd (hk H locs ls hP hD hS hL)
  | iushr =>
    cases hil; subst hnx
    obtain ⟨a, b, r, rfl, hk⟩ := m_p2_inv hs
    intro H locs ls hP hD hS hL
    exact lv_iushr hx hb hd rfl (hk H locs ls hP hD hS hL)
  | i2b =>
    cases hil; subst hnx
    obtain ⟨a, r, rfl, hk⟩ := m_p1_inv hs
    intro H locs ls hP hD hS hL
    exact lv_i2b hx hb hd rfl (hk H locs ls hP hD hS hL)
  | dup =>
    cases hil; subst hnx
    obtain ⟨v, r, rfl, hv, hk⟩ := m_pV_inv hs
    intro H locs ls hP hD hS hL
    exact lv_dup hx hb hd ((cz_cat ad v).trans hv) (hk H locs ls hP hD hS hL)
  | dup2 =>
    cases hil; subst hnx
    obtain ⟨v, w, r, rfl, hv, hw, hk⟩ := m_pVV_inv hs
    intro H locs ls hP hD hS hL
    exact lv_dup2_11 hx hb hd ((cz_cat ad v).trans hv) ((cz_cat ad w).trans hw) (hk H locs ls hP hD hS hL)
  | pop =>
    cases hil; subst hnx
    obtain ⟨v, r, rfl, hv, hk⟩ := m_pV_inv hs
    intro H locs ls hP hD hS hL
    exact lv_pop hx hb hd ((cz_cat ad v).trans hv) (hk H locs ls hP hD hS hL)
  | getfield idx =>
    cases hil; subst hnx
    obtain ⟨a, r, rfl, hg⟩ := m_pR_inv hs
    obtain ⟨ci, fs, ho, hci, v, hv, hk⟩ := m_gO_inv hg
    dsimp only at hci hv hk
    subst hci
    obtain ⟨C, T, N, hc, hy, hlink⟩ := hlk
    dsimp only at hc hy hlink
    obtain ⟨hin, -⟩ := mcl_ok _ (List.mem_of_getElem? hc)
    intro H locs ls hP hD hS hL
    have hfv : (fs.map (cz ad))[y]? = some (cz ad v) := by rw [List.getElem?_map, hv]; rfl
    rcases hlink with hlink | ⟨host, hlink⟩
    · exact va_get hx hb hts hin hown hK hP a (cW_at ho) hc y hy (hts _ hlink) (fun _ h9 => h9) hfv hd (hk H locs ls hP hD hS hL)
    · exact va_getN hx hb hts hin hown hK hP a (cW_at ho) hc y hy (va_Nw.use rfl (hN _ hlink)) (fun _ h9 => h9) hfv hd (hk H locs ls hP hD hS hL)
  | putfield idx =>
    cases hil; subst hnx
    obtain ⟨v, r0, rfl, hg1⟩ := m_p1_inv hs
    obtain ⟨a, r, rfl, hg2⟩ := m_pR_inv hg1
    obtain ⟨ci, fs, ho, hci, hyl, hk⟩ := m_gO_inv hg2
    dsimp only at hci hyl hk
    subst hci
    obtain ⟨C, T, N, hc, hy, hlink, hfin, hint⟩ := hlk
    dsimp only at hc hy hlink hfin hint
    obtain ⟨hin, ty, hty, hnm⟩ := mcl_ok _ (List.mem_of_getElem? hc)
    intro H locs ls hP hD hS hL
    refine va_put hx hb hts hin ty hty hnm hown hK hP hD hS a (cW_at ho) hc y hy (hts _ hlink) (fun _ h9 => h9) hfin (v := .int v) hint rfl rfl (by rw [List.length_map]; exact hyl) hd (fun H1 locs1 hP1 hD1 hS1 => ?_)
    rw [cW_setO] at hP1 hD1
    exact hk H1 locs1 ls hP1 hD1 hS1 hL
  | iaload =>
    cases hil; subst hnx
    obtain ⟨i, r0, rfl, hg⟩ := m_p1_inv hs
    obtain ⟨a, r, rfl, hg⟩ := m_pR_inv hg
    obtain ⟨n, f, ho, hin, hk⟩ := m_gA_inv hg
    intro H locs ls hP hD hS hL
    exact va_iald hx hb hK hP a 0 (cW_at ho) rfl hin hd (hk H locs ls hP hD hS hL)
  | baload =>
    cases hil; subst hnx
    obtain ⟨i, r0, rfl, hg⟩ := m_p1_inv hs
    obtain ⟨a, r, rfl, hg⟩ := m_pR_inv hg
    obtain ⟨n, f, ho, hin, hk⟩ := m_gA_inv hg
    intro H locs ls hP hD hS hL
    exact va_bald hx hb hK hP a 1 (cW_at ho) rfl hin hd (hk H locs ls hP hD hS hL)
  | iastore =>
    cases hil; subst hnx
    obtain ⟨v, r1, rfl, hg⟩ := m_p1_inv hs
    obtain ⟨i, r0, rfl, hg⟩ := m_p1_inv hg
    obtain ⟨a, r, rfl, hg⟩ := m_pR_inv hg
    obtain ⟨n, f, ho, hin, hk⟩ := m_gA_inv hg
    intro H locs ls hP hD hS hL
    refine va_iast hx hb hK hP hD hS a 0 (cW_at ho) rfl hin hd (fun H1 locs1 hP1 hD1 hS1 => ?_)
    have e := cW_set cy ad h a (.inl (0, n, .inl (upd f i.toNatClampNeg v)))
    exact hk H1 locs1 ls (by rw [← e]; exact hP1) (by rw [← e]; exact hD1) hS1 hL
  | bastore =>
    cases hil; subst hnx
    obtain ⟨v, r1, rfl, hg⟩ := m_p1_inv hs
    obtain ⟨i, r0, rfl, hg⟩ := m_p1_inv hg
    obtain ⟨a, r, rfl, hg⟩ := m_pR_inv hg
    obtain ⟨n, f, ho, hin, hk⟩ := m_gA_inv hg
    intro H locs ls hP hD hS hL
    refine va_bast hx hb hK hP hD hS a 1 (cW_at ho) rfl hin hd (fun H1 locs1 hP1 hD1 hS1 => ?_)
    have e := cW_set cy ad h a (.inl (1, n, .inl (upd f i.toNatClampNeg (vp_nar .byte v))))
    exact hk H1 locs1 ls (by rw [← e]; exact hP1) (by rw [← e]; exact hD1) hS1 hL
  | aaload =>
    cases hil; subst hnx
    obtain ⟨i, r0, rfl, hg⟩ := m_p1_inv hs
    obtain ⟨a, r, rfl, hg⟩ := m_pR_inv hg
    obtain ⟨n, g, ho, hin, hk⟩ := m_gQ_inv hg
    intro H locs ls hP hD hS hL
    refine va_aldq hx hb hK hP a 2 (C := RX3) (f := fun j => (g j).map ad) (cW_at ho) rfl hin hd ?_
    rw [va_rf_map]
    exact hk H locs ls hP hD hS hL
  | aastore =>
    cases hil; subst hnx
    obtain ⟨v, r1, rfl, hg⟩ := m_pR_inv hs
    obtain ⟨i, r0, rfl, hg⟩ := m_p1_inv hg
    obtain ⟨a, r, rfl, hg⟩ := m_pR_inv hg
    obtain ⟨n, g, ho, hg⟩ := m_gQ_inv hg
    obtain ⟨ci, fs, hv, hci, hin, hk⟩ := m_gO_inv hg
    subst hci
    intro H locs ls hP hD hS hL
    refine va_astq hx hb hK hP hD hS a 2 v 3 (r := (RX3, TX3, 2)) (f := fun j => (g j).map ad) (cW_at ho) rfl (cW_at hv) rfl hin hd (fun H1 locs1 hP1 hD1 hS1 => ?_)
    rw [cW_setQ] at hP1 hD1
    exact hk H1 locs1 ls hP1 hD1 hS1 hL
  | arraylength =>
    cases hil; subst hnx
    obtain ⟨a, r, rfl, hg⟩ := m_pR_inv hs
    obtain ⟨t, n, x0, ho, ht, hk⟩ := m_gL_inv hg
    obtain ⟨ty, hty⟩ := mty_at (cy := cy) ht
    obtain ⟨x', hx'⟩ := cE_len (cy := cy) (ad := ad) (t := t) (n := n) (x := x0)
    intro H locs ls hP hD hS hL
    exact va_alen (x := (n, x')) hx hb hK hP a t (by rw [cW_at ho, hx']) hty rfl hd (hk H locs ls hP hD hS hL)
  | goto o =>
    cases hil; subst hnx
    intro H locs ls hP hD hS hL
    exact lv_goto hx hb hd hlk (hs H locs ls hP hD hS hL)
  | ifCond cc o =>
    cases hil; subst hnx
    cases cc <;> (obtain ⟨a, r, rfl, h1, h2⟩ := m_p1_inv hs; intro H locs ls hP hD hS hL)
    · exact lv_if_eq hx hb hd hlk (fun q => h1 q H locs ls hP hD hS hL) (fun q => h2 q H locs ls hP hD hS hL)
    · exact lv_if_ne hx hb hd hlk (fun q => h1 q H locs ls hP hD hS hL) (fun q => h2 q H locs ls hP hD hS hL)
    · exact lv_if_lt hx hb hd hlk (fun q => h1 q H locs ls hP hD hS hL) (fun q => h2 q H locs ls hP hD hS hL)
    · exact lv_if_ge hx hb hd hlk (fun q => h1 q H locs ls hP hD hS hL) (fun q => h2 q H locs ls hP hD hS hL)
    · exact lv_if_gt hx hb hd hlk (fun q => h1 q H locs ls hP hD hS hL) (fun q => h2 q H locs ls hP hD hS hL)
    · exact lv_if_le hx hb hd hlk (fun q => h1 q H locs ls hP hD hS hL) (fun q => h2 q H locs ls hP hD hS hL)
  | if_icmp cc o =>
    cases hil; subst hnx
    cases cc <;> (obtain ⟨a, b, r, rfl, h1, h2⟩ := m_p2_inv hs; intro H locs ls hP hD hS hL)
    · exact lv_icmp_eq hx hb hd hlk (fun q => h1 q H locs ls hP hD hS hL) (fun q => h2 q H locs ls hP hD hS hL)
    · exact lv_icmp_ne hx hb hd hlk (fun q => h1 q H locs ls hP hD hS hL) (fun q => h2 q H locs ls hP hD hS hL)
    · exact lv_icmp_lt hx hb hd hlk (fun q => h1 q H locs ls hP hD hS hL) (fun q => h2 q H locs ls hP hD hS hL)
    · exact lv_icmp_ge hx hb hd hlk (fun q => h1 q H locs ls hP hD hS hL) (fun q => h2 q H locs ls hP hD hS hL)
    · exact lv_icmp_gt hx hb hd hlk (fun q => h1 q H locs ls hP hD hS hL) (fun q => h2 q H locs ls hP hD hS hL)
    · exact lv_icmp_le hx hb hd hlk (fun q => h1 q H locs ls hP hD hS hL) (fun q => h2 q H locs ls hP hD hS hL)
  | ifnull o =>
    cases hil; subst hnx
    obtain ⟨v, r, rfl, hv, h1, h2⟩ := m_pA_inv (f := fun v r => (v = .null → mX p l ev R s m args below meth c D cy ad A nL (MQ below Qc args s 0 0 A) x lv r h) ∧ (¬ v = .null → mX p l ev R s m args below meth c D cy ad A nL (MQ below Qc args s 0 0 A) (pc + 3) lv r h)) hs
    intro H locs ls hP hD hS hL
    rcases hv with rfl | ⟨a, rfl⟩
    · exact lv_ifnullN hx hb hd hlk (h1 rfl H locs ls hP hD hS hL)
    · exact lv_ifnull hx hb hd (h2 (fun q => by cases q) H locs ls hP hD hS hL)
  | ifnonnull o =>
    cases hil; subst hnx
    obtain ⟨v, r, rfl, hv, h1, h2⟩ := m_pA_inv (f := fun v r => (¬ v = .null → mX p l ev R s m args below meth c D cy ad A nL (MQ below Qc args s 0 0 A) x lv r h) ∧ (v = .null → mX p l ev R s m args below meth c D cy ad A nL (MQ below Qc args s 0 0 A) (pc + 3) lv r h)) hs
    intro H locs ls hP hD hS hL
    rcases hv with rfl | ⟨a, rfl⟩
    · exact lv_ifnonnullN hx hb hd (h2 rfl H locs ls hP hD hS hL)
    · exact lv_ifnonnull hx hb hd hlk (h1 (fun q => by cases q) H locs ls hP hD hS hL)
  | tableswitch df lo hi offs =>
    obtain ⟨a, r, rfl, hk⟩ := m_p1_inv hs
    obtain ⟨g1, g2, g3⟩ := hlk
    intro H locs ls hP hD hS hL
    have w := hk H locs ls hP hD hS hL
    unfold m_sw at w
    split at w
    next hq => exact lv_tableOut hx hb hd hq (by omega) w
    next hq =>
      have hlo : ¬ a.toInt < lo := fun q => hq (Or.inl q)
      have hhi : ¬ hi < a.toInt := fun q => hq (Or.inr q)
      have hlt : (a.toInt - lo).toNat < offs.size := by omega
      have he : offs[(a.toInt - lo).toNat]? = some offs[(a.toInt - lo).toNat] := Array.getElem?_eq_getElem hlt
      rw [he] at w
      have hnn := g3 _ (Array.getElem_mem_toList hlt)
      refine lv_tableIn hx hb hd hlo hhi he ?_ w
      show (pc : Int) + offs[(a.toInt - lo).toNat] = (((pc : Int) + offs[(a.toInt - lo).toNat]).toNat : Int)
      omega
  | lookupswitch df ps =>
    obtain ⟨a, r, rfl, hk⟩ := m_p1_inv hs
    obtain ⟨g1, g2, g3⟩ := hlk
    intro H locs ls hP hD hS hL
    have w := hk H locs ls hP hD hS hL
    have hnn := lk_nonneg ps.toList df a.toInt pc g1 g3
    refine lv_lookup hx hb hd g2 rfl ?_ w
    unfold m_lk
    omega
  | ireturn =>
    cases hil; subst hnx
    obtain ⟨a, r, rfl, rfl, hrt, hq⟩ := m_p1_inv hs
    intro H locs ls hP hD hS hL
    unfold m_rt at hrt
    split at hrt
    · exact W.iret (free := A) hx hb hr (fun t ht hW => hret _ _ _ _ hq hP hD hS t ht hW) hS.2.2 hd
    · refine W.zret (free := A) (ty := .boolean) hx hb hr ?_ (fun t ht hW => hret _ _ _ _ hq hP hD hS t ht hW) hS.2.2 hd
      rcases hrt with rfl | rfl
      · decide
      · decide
    · exact hrt.elim
  | areturn =>
    cases hil; subst hnx
    obtain ⟨v, r, rfl, hv, rfl, hra, hq⟩ := m_pA_inv (f := fun v r => r = [] ∧ m_ra rt ∧ Q (some v) h) hs
    intro H locs ls hP hD hS hL
    unfold m_ra at hra
    split at hra
    · refine W.aret (free := A) hx hb hr (Or.inl ⟨_, rfl⟩) ?_ (fun t ht hW => hret _ _ _ _ hq hP hD hS t ht hW) hS.2.2 hd
      rcases hv with rfl | ⟨a, rfl⟩
      · exact Or.inl rfl
      · exact Or.inr ⟨_, rfl⟩
    · exact hra.elim
  | return_ =>
    cases hil; subst hnx
    obtain ⟨rfl, hrt, hq⟩ := hs
    intro H locs ls hP hD hS hL
    exact W.vret (free := A) hx hb (hr.trans hrt) (fun t ht hW => hret _ _ _ _ hq hP hD hS t ht hW) hS.2.2 hd
  | invokestatic idx =>
    cases hil
    have hs1 : m_stat (mX p l ev R s m args below meth c D cy ad A nL (MQ below Qc args s 0 0 A)) cal nx x y z lv st h := hs
    have hlk1 : TOK P own idx x y z := hlk
    unfold m_stat at hs1
    unfold TOK at hlk1
    split at hs1
    next => exact snd_call_S X0 hd hnx hlk1 hs1
    next =>
      obtain ⟨a, b, r, rfl, hsum, hk⟩ := m_p2_inv hs1
      obtain ⟨g1, g2, g3, g4⟩ := hlk1
      subst hnx
      intro H locs ls hP hD hS hL
      refine va_mmax hx hb (hml.trans hL.1.symm) hown (hts _ g1) (hts _ g2) (hts _ g3) (hts _ g4) (by rw [hR]; show 1 ≤ d + 1; omega) ?_ (Nat.zero_le _) (Nat.zero_le _) hd (hk H locs ls hP hD hS hL)
      rw [cat_sum, hR]
      show _ ≤ (d + 1) * 30
      omega
    next hz0 hz1 =>
      obtain ⟨a, b, r, rfl, hsum, hk⟩ := m_p2_inv hs1
      split at hlk1
      next => exact absurd rfl hz0
      next => exact absurd rfl hz1
      next =>
        obtain ⟨g1, g2, g3, g4⟩ := hlk1
        subst hnx
        intro H locs ls hP hD hS hL
        refine va_mmin hx hb (hml.trans hL.1.symm) hown (hts _ g1) (hts _ g2) (hts _ g3) (hts _ g4) (by rw [hR]; show 1 ≤ d + 1; omega) ?_ (Nat.zero_le _) (Nat.zero_le _) hd (hk H locs ls hP hD hS hL)
        rw [cat_sum, hR]
        show _ ≤ (d + 1) * 30
        omega
  | invokevirtual idx =>
    cases hil
    exact snd_call_V X0 hd hnx hlk hs.1 hs.2
  | _ => exact hs.elim
end SND
