section MU
variable {p : Program} {l : Launch} {e : Env} {R : Room} {s : State} {m : MethodId} {args : Array Value} {below : List Frame} {meth : Method} {c : Code} {H : Heap} {locs : List Loc} {cells slots : Nat} {Q : State → Prop}
variable {cc : ByteArray} {pc : Nat} {ls : Array Slot} {z : mZ} {ca : Nat → ClassId} {D : va_G} {nL L0 S0 : Nat} {lv : mL} {st : List Value} {h : mS} {o : mO}
theorem mand {a b : Bool} (h : (a && b) = true) : a = true ∧ b = true := by rw [Bool.and_eq_true] at h; exact h
theorem mlen {a b : Nat} (h : Nat.beq a b = true) : a = b := Nat.eq_of_beq_eq_true h
theorem minv_call {kind y b c' : Nat} (hs : minv kind y b c' st h = some o) : ∃ q, o = .inr (.inr q) := by
  unfold minv at hs
  cases hk : Nat.blt kind 2 with
  | true =>
    simp only [hk, cond_true] at hs
    split at hs
    · split at hs
      · rename_i o1 _
        revert hs
        cases (Nat.beq o1.1 c' && (Nat.ble b st.length && (Nat.ble _ 8 && (_ && (st.take b).all mone)))) with
        | true => intro hs; cases hs; exact ⟨_, rfl⟩
        | false => intro hs; cases hs
      · cases hs
    · revert hs
      cases (Nat.beq c' 50 && (Nat.ble b st.length && (Nat.ble _ 8 && (_ && (st.take b).all mone)))) with
      | true => intro hs; cases hs; exact ⟨_, rfl⟩
      | false => intro hs; cases hs
    · cases hs
  | false =>
    simp only [hk, cond_false] at hs
    revert hs
    cases (Nat.ble b st.length && (Nat.ble (st.drop b).length 8 && ((st.drop b).all mone && (st.take b).all mone))) with
    | true => intro hs; cases hs; exact ⟨_, rfl⟩
    | false => intro hs; cases hs
/-- the three ends -/
def mRet (x : mI) (st : List Value) (r : Option Value) : Prop := x.2.1 = 1 ∧ ((x.1 = .ireturn ∧ ∃ v, st = [.int v] ∧ r = some (.int v)) ∨ (x.1 = .areturn ∧ ∃ v, st = [v] ∧ r = some v ∧ (v = .null ∨ ∃ k, v = .ref k)) ∨ (x.1 = .return_ ∧ st = [] ∧ r = none))
set_option maxHeartbeats 4000000 in
set_option maxRecDepth 100000 in
theorem mstep_ok {x : mI} {own name : String} {scr : Option (Nat × (Nat → Int32))} (hs : mstep scr nL pc lv st h x = some o) (hd : decode cc pc = .ok (x.1, x.2.1)) (hk : mok own name pc x = true) (hA : mAt z ca D s.heap nL L0 S0 lv h H locs ls cells slots) (hR : mRoom R L0 S0 o) (hce : cells ≤ R.cells) (hsl : slots ≤ R.slots)
    (hC : mCx p R s m args meth c z ca D cc nL own name)
    (hX : ∀ q, scr = some q → va_X z.2.2.1 q.1 q.2 s s.heap ∧ z.2.2.1 < s.heap.size ∧ ¬ z.1 ≤ z.2.2.1)
    (kn : mNext p l e R s m args below meth c Q z ca D s.heap nL L0 S0 o)
    (kr : ∀ r, o = .inr (.inl r) → mRet x st r → W p l e R s m args below meth c H locs cells slots Q (F0 m pc ls (st.map (sv z))))
    (kc : ∀ q, o = .inr (.inr q) → (∃ idx, x.1 = .invokevirtual idx ∨ x.1 = .invokespecial idx ∨ x.1 = .invokestatic idx) → W p l e R s m args below meth c H locs cells slots Q (F0 m pc ls (st.map (sv z)))) : W p l e R s m args below meth c H locs cells slots Q (F0 m pc ls (st.map (sv z))) := by
  obtain ⟨hx, hb, hml, hts, hown, hG, hnm, hfr, hlo, hz0⟩ := id hC
  have hK := hG.1
  obtain ⟨i, len, a, b, c3, d⟩ := x
  have hd : decode cc pc = .ok (i, len) := hd
  cases i with
  | aconst_null => cases mlen hk; exact lv_null hx hb hd (mk_nx hs kn hA)
  | aload i =>
    cases mlen hk
    refine mk_ld hs kn hA (fun v hv hl k => ?_)
    rcases msv_ref z hv with e | ⟨a, e⟩
    · rw [e] at hl k; exact lv_aloadN hx hb hd hl k
    · rw [e] at hl k; exact lv_aload hx hb hd hl k
  | aload_n i =>
    cases mlen hk
    refine mk_ld hs kn hA (fun v hv hl k => ?_)
    rcases msv_ref z hv with e | ⟨a, e⟩
    · rw [e] at hl k; exact lv_aload_nN hx hb hd rfl hl k
    · rw [e] at hl k; exact lv_aload_n hx hb hd rfl hl k
  | iload i =>
    cases mlen hk
    refine mk_ld hs kn hA (fun v hv hl k => ?_)
    obtain ⟨x, rfl⟩ := msv_int z hv
    exact lv_iload hx hb hd hl k
  | iload_n i =>
    cases mlen hk
    refine mk_ld hs kn hA (fun v hv hl k => ?_)
    obtain ⟨x, rfl⟩ := msv_int z hv
    exact lv_iload_n hx hb hd rfl hl k
  | astore i =>
    cases mlen hk
    refine mk_st hs kn hA (fun v r hv hi k => ?_)
    rcases msv_ref z hv with e | ⟨a, e⟩
    · rw [e]; exact lv_astoreN hx hb hd hA.2.2.1 hi (by rw [← e]; exact mput_map z lv i v) k
    · rw [e]; exact lv_astore hx hb hd hA.2.2.1 hi (by rw [← e]; exact mput_map z lv i v) k
  | astore_n i =>
    cases mlen hk
    refine mk_st hs kn hA (fun v r hv hi k => ?_)
    rcases msv_ref z hv with e | ⟨a, e⟩
    · rw [e]; exact lv_astore_nN hx hb hd rfl hA.2.2.1 hi (by rw [← e]; exact mput_map z lv i.val v) k
    · rw [e]; exact lv_astore_n hx hb hd rfl hA.2.2.1 hi (by rw [← e]; exact mput_map z lv i.val v) k
  | istore i =>
    cases mlen hk
    refine mk_st hs kn hA (fun v r hv hi k => ?_)
    obtain ⟨x, rfl⟩ := msv_int z hv
    exact lv_istore hx hb hd hA.2.2.1 hi (mput_map z lv i (.int x)) k
  | istore_n i =>
    cases mlen hk
    refine mk_st hs kn hA (fun v r hv hi k => ?_)
    obtain ⟨x, rfl⟩ := msv_int z hv
    exact lv_istore_n hx hb hd rfl hA.2.2.1 hi (mput_map z lv i.val (.int x)) k
  | iconst n => cases mlen hk; exact lv_iconst hx hb hd rfl (mk_nx hs kn hA)
  | bipush n => cases mlen hk; exact lv_bipush hx hb hd rfl (mk_nx hs kn hA)
  | sipush n => cases mlen hk; exact lv_sipush hx hb hd rfl (mk_nx hs kn hA)
  | ldc idx =>
    have hk2 := mand hk
    clear hk
    obtain ⟨hl, hk⟩ := hk2
    cases mlen hl
    cases ha : Nat.beq a 0 with
    | true =>
      simp only [ha, cond_true] at hk
      have hs : mnx (pc + 2) lv (.int (Int32.ofNat b) :: st) h = some o := by simp only [mstep, ha, cond_true] at hs; exact hs
      exact lv_ldc hx hb hown (hts _ (mIn_mem hk)) hd (mk_nx hs kn hA)
    | false =>
      simp only [ha, cond_false] at hk
      have hs2 : mnx (pc + 2) lv (.retAddr 0 :: st) h = some o := by simp only [mstep, ha, cond_false] at hs; exact hs
      obtain ⟨h1, h2⟩ := mand hk
      have h1 := of_decide_eq_true h1
      subst h1
      cases mlen h2
      exact va_ldcS hx hb hown hG.2.2.2.1 hd (mk_nx hs2 kn hA)
  | iadd => cases mlen hk; exact mk_bin hs kn hA (fun x y r k => lv_iadd hx hb hd k)
  | isub => cases mlen hk; exact mk_bin hs kn hA (fun x y r k => lv_isub hx hb hd k)
  | imul => cases mlen hk; exact mk_bin hs kn hA (fun x y r k => lv_imul hx hb hd k)
  | iand => cases mlen hk; exact mk_bin hs kn hA (fun x y r k => lv_iand hx hb hd k)
  | ior => cases mlen hk; exact mk_bin hs kn hA (fun x y r k => lv_ior hx hb hd k)
  | ixor => cases mlen hk; exact mk_bin hs kn hA (fun x y r k => lv_ixor hx hb hd k)
  | ishl => cases mlen hk; exact mk_bin hs kn hA (fun x y r k => lv_ishl hx hb hd k)
  | ishr => cases mlen hk; exact mk_bin hs kn hA (fun x y r k => lv_ishr hx hb hd k)
  | iushr => cases mlen hk; exact mk_bin hs kn hA (fun x y r k => lv_iushr hx hb hd rfl k)
  | idiv => cases mlen hk; exact mk_div hs kn hA (fun x y r hy k => lv_idiv hx hb hd hy k)
  | irem => cases mlen hk; exact mk_div hs kn hA (fun x y r hy k => lv_irem hx hb hd hy k)
  | ineg => cases mlen hk; exact mk_un hs kn hA (fun x r k => lv_ineg hx hb hd k)
  | i2c => cases mlen hk; exact mk_un hs kn hA (fun x r k => lv_i2c hx hb hd rfl k)
  | iinc i n =>
    cases mlen hk
    simp only [mstep] at hs
    split at hs
    · rename_i x hg
      cases hc : Nat.blt i nL with
      | false => simp only [hc, cond_false] at hs; cases hs
      | true =>
        simp only [hc, cond_true] at hs
        obtain ⟨k, hk2⟩ := List.getElem?_of_mem (List.mem_map.mpr ⟨(i, Value.int x), mget_in hg, rfl⟩ : ml z (i, Value.int x) ∈ lv.map (ml z))
        exact lv_iinc hx hb hd hA.2.2.1 hk2 rfl (Nat.blt_eq.mp hc) (mput_map z lv i (.int (x + Int32.ofInt n))) (fun ls' hl' => mk_nx hs kn ⟨hA.1, hA.2.1, hl', hA.2.2.2⟩)
    · cases hs
  | dup =>
    cases mlen hk
    simp only [mstep] at hs
    split at hs
    · rename_i v r
      cases hc : mone v with
      | false => simp only [hc, cond_false] at hs; cases hs
      | true =>
        simp only [hc, cond_true] at hs
        exact lv_dup hx hb hd (mone_cat z hc) (mk_nx hs kn hA)
    · cases hs
  | dup2 =>
    cases mlen hk
    simp only [mstep] at hs
    split at hs
    · rename_i v w r
      cases hc : (mone v && mone w) with
      | false => simp only [hc, cond_false] at hs; cases hs
      | true =>
        simp only [hc, cond_true] at hs
        obtain ⟨h1, h2⟩ := mand hc
        exact lv_dup2_11 hx hb hd (mone_cat z h1) (mone_cat z h2) (mk_nx hs kn hA)
    · cases hs
  | pop =>
    cases mlen hk
    simp only [mstep] at hs
    split at hs
    · rename_i v r
      cases hc : mone v with
      | false => simp only [hc, cond_false] at hs; cases hs
      | true =>
        simp only [hc, cond_true] at hs
        exact lv_pop hx hb hd (mone_cat z hc) (mk_nx hs kn hA)
    · cases hs
  | goto off =>
    have hk2 := mand hk
    clear hk
    obtain ⟨hl, hk⟩ := hk2
    cases mlen hl
    exact lv_goto hx hb hd (of_decide_eq_true hk) (mk_nx hs kn hA)
  | ifCond cd off =>
    have hk2 := mand hk
    clear hk
    obtain ⟨hl, hk⟩ := hk2
    cases mlen hl
    have ht := of_decide_eq_true hk
    cases cd with
    | eq => exact mk_if hs kn hA (fun x r k1 k2 => lv_if_eq hx hb hd ht k1 k2)
    | ne => exact mk_if hs kn hA (fun x r k1 k2 => lv_if_ne hx hb hd ht k1 (fun q => k2 (fun q2 => q2 q)))
    | lt => exact mk_if hs kn hA (fun x r k1 k2 => lv_if_lt hx hb hd ht k1 k2)
    | ge => exact mk_if hs kn hA (fun x r k1 k2 => lv_if_ge hx hb hd ht k1 k2)
    | gt => exact mk_if hs kn hA (fun x r k1 k2 => lv_if_gt hx hb hd ht k1 k2)
    | le => exact mk_if hs kn hA (fun x r k1 k2 => lv_if_le hx hb hd ht k1 k2)
  | if_icmp cd off =>
    have hk2 := mand hk
    clear hk
    obtain ⟨hl, hk⟩ := hk2
    cases mlen hl
    have ht := of_decide_eq_true hk
    cases cd with
    | eq => exact mk_if2 hs kn hA (fun x y r k1 k2 => lv_icmp_eq hx hb hd ht k1 k2)
    | ne => exact mk_if2 hs kn hA (fun x y r k1 k2 => lv_icmp_ne hx hb hd ht k1 (fun q => k2 (fun q2 => q2 q)))
    | lt => exact mk_if2 hs kn hA (fun x y r k1 k2 => lv_icmp_lt hx hb hd ht k1 k2)
    | ge => exact mk_if2 hs kn hA (fun x y r k1 k2 => lv_icmp_ge hx hb hd ht k1 k2)
    | gt => exact mk_if2 hs kn hA (fun x y r k1 k2 => lv_icmp_gt hx hb hd ht k1 k2)
    | le => exact mk_if2 hs kn hA (fun x y r k1 k2 => lv_icmp_le hx hb hd ht k1 k2)
  | if_acmp cd off =>
    have hk2 := mand hk
    clear hk
    obtain ⟨hl, hk⟩ := hk2
    cases mlen hl
    have ht := of_decide_eq_true hk
    cases cd with
    | eq => exact mk_ifa (off := off) hs kn hA (fun x y r k1 k2 => lv_acmp_eq hx hb hd ht (fun q => k1 (by simp [q])) (fun q => k2 (by simp [q])))
    | ne => exact mk_ifa (off := off) hs kn hA (fun x y r k1 k2 => lv_acmp_ne hx hb hd ht (fun q => k1 (by simp [q])) (fun q => k2 (by simp [q])))
  | ifnull off =>
    have hk2 := mand hk
    clear hk
    obtain ⟨hl, hk⟩ := hk2
    cases mlen hl
    exact mk_ifn hs kn hA (fun r k1 _ => lv_ifnullN hx hb hd (of_decide_eq_true hk) (k1 rfl)) (fun q r k1 _ => lv_ifnull hx hb hd (k1 rfl))
  | ifnonnull off =>
    have hk2 := mand hk
    clear hk
    obtain ⟨hl, hk⟩ := hk2
    cases mlen hl
    exact mk_ifn hs kn hA (fun r _ k2 => lv_ifnonnullN hx hb hd (k2 rfl)) (fun q r _ k2 => lv_ifnonnull hx hb hd (of_decide_eq_true hk) (k2 rfl))
  | tableswitch df lo hi os =>
    simp only [mstep] at hs
    split at hs
    · rename_i x r
      split at hs
      · rename_i hq
        exact mk_sw hs kn hA (fun tgt ht k => lv_tableOut hx hb hd hq ht k)
      · rename_i hq
        split at hs
        · rename_i o1 ho
          exact mk_sw hs kn hA (fun tgt ht k => lv_tableIn hx hb hd (fun q => hq (Or.inl q)) (fun q => hq (Or.inr q)) ho ht k)
        · cases hs
    · cases hs
  | lookupswitch df ps =>
    simp only [mstep] at hs
    split at hs
    · rename_i x r
      exact mk_sw hs kn hA (fun tgt ht k => lv_lookup hx hb hd (by simpa [mok] using hk) rfl ht k)
    · cases hs
  | getfield idx =>
    have hk2 := mand hk
    clear hk
    obtain ⟨hl, hk⟩ := hk2
    cases mlen hl
    cases ha : Nat.beq a 100 with
    | true =>
      simp only [ha, cond_true] at hk
      simp only [mstep, ha, cond_true] at hs
      exact mk_gets hs kn hA hC hk hd
    | false =>
      simp only [ha, cond_false] at hk
      simp only [mstep, ha, cond_false] at hs
      revert hk
      cases hq : mcl[a]? with
      | none => intro hk; cases hk
      | some q =>
        intro hk
        obtain ⟨h1, h2⟩ := mand hk
        exact mk_getf hs kn hA hx hb hts (mcl_in hq).1 hown hK hq (Nat.blt_eq.mp h1) (hts _ (mIn_mem h2)) hd
  | putfield idx =>
    have hk2 := mand hk
    clear hk
    obtain ⟨hl, hk⟩ := hk2
    cases mlen hl
    revert hk
    cases hq : mcl[a]? with
    | none => intro hk; cases hk
    | some q =>
      intro hk
      obtain ⟨h1, h2⟩ := mand hk
      obtain ⟨h2, h3⟩ := mand h2
      refine mk_putf hs kn hA hx hb hts (mcl_in hq).1 hown hK hq (Nat.blt_eq.mp h1) (hts _ (mIn_mem h2)) ?_ hd
      rw [Bool.or_eq_true] at h3
      rcases h3 with h3 | h3
      · exact Or.inl (by simpa using h3)
      · obtain ⟨h3, h4⟩ := mand h3
        obtain ⟨h4, h5⟩ := mand h4
        exact Or.inr ⟨h3, hnm (of_decide_eq_true h4), of_decide_eq_true h5⟩
  | new idx =>
    have hk2 := mand hk
    clear hk
    obtain ⟨hl, hk⟩ := hk2
    cases mlen hl
    revert hk
    cases hq : mcl[a]? with
    | none => intro hk; cases hk
    | some q =>
      intro hk
      exact mk_new hs kn hA hR hx hb hts (mcl_in hq).1 hown hK hq (hts _ (mIn_mem hk)) (hts _ (mcl_in hq).2.1) (hts _ (mcl_in hq).2.2) hd
  | newarray ty =>
    have hk2 := mand hk
    clear hk
    obtain ⟨hl, hk⟩ := hk2
    cases mlen hl
    rw [Bool.or_eq_true] at hk
    rcases hk with hk | hk
    · obtain ⟨h1, h2⟩ := mand hk
      cases mlen h1
      have h2 := of_decide_eq_true h2
      subst h2
      exact mk_newa (ty := .int) hs kn hA hR hx hb (hts _ mf_int) (fun cA hc => Option.some.inj (hc.symm.trans (hK.2 0 _ rfl).2)) rfl (by decide) hd
    · obtain ⟨h1, h2⟩ := mand hk
      cases mlen h1
      have h2 := of_decide_eq_true h2
      subst h2
      exact mk_newa (ty := .boolean) hs kn hA hR hx hb (hts _ mf_bool) (fun cA hc => Option.some.inj (hc.symm.trans (hK.2 1 _ rfl).2)) rfl (by decide) hd
  | anewarray idx =>
    have hk2 := mand hk
    clear hk
    obtain ⟨hl, hk⟩ := hk2
    cases mlen hl
    obtain ⟨h1, hk⟩ := mand hk
    obtain ⟨h2, hk⟩ := mand hk
    obtain ⟨q, hq, hty⟩ := mtys_at (ca := ca) (Nat.blt_eq.mp h1) (Nat.blt_eq.mp h2)
    rw [hq] at hk
    obtain ⟨kA, comp, k1, k2, k3, k4⟩ := (hK.2 a _ hty).2
    have hmem : q.1 ∈ mArr := by
      have h1 := Nat.blt_eq.mp h1
      have h2 := Nat.blt_eq.mp h2
      match a, h1, h2, hq with
      | 2, _, _, hq => cases hq; decide
      | 3, _, _, hq => cases hq; decide
      | 4, _, _, hq => cases hq; decide
      | 5, _, _, hq => cases hq; decide
    exact mk_newq hs kn hA hR hx hb hown (hts _ (mIn_mem hk)) (hG.2.2.1 _ hmem) (fun cA hc => Option.some.inj (hc.symm.trans k4)) hd
  | arraylength =>
    cases mlen hk
    exact mk_alen hs kn hA hx hb hK hd (fun q r hq k => va_slen hx hb (hX q hq).1 (hX q hq).2.1 (hX q hq).2.2 hA.2.1 hd k) (fun r k => va_tlen hx hb (hG.2.2.2.2.1.1 0 (by decide)).2.2.2 hA.2.1 rfl hd k)
  | iaload =>
    cases mlen hk
    exact mk_ald hs kn hA (fun a n f i r h1 h2 k => va_iald hx hb hK h1 0 0 rfl rfl h2 hd k) (fun q i r hq h2 k => va_sld hx hb (hX q hq).1 (hX q hq).2.1 (hX q hq).2.2 hA.2.1 h2 hd k)
  | baload =>
    cases mlen hk
    exact mk_bld hs kn hA hC hd
  | getstatic idx =>
    have hk2 := mand hk
    clear hk
    obtain ⟨hl, hk⟩ := hk2
    cases mlen hl
    exact va_gets hx hb hG.2.2.2.2.2 hA.2.1 hown (hts _ (mIn_mem hk)) (fun _ q => q) hd (mk_nx hs kn hA)
  | i2b => cases mlen hk; exact mk_un hs kn hA (fun x r k => lv_i2b hx hb hd rfl k)
  | iastore =>
    cases mlen hk
    exact mk_ast hs kn hA (fun a n f i x r h1 h2 h3 k => mk_iastW hx hb hK h1 h2 hd k)
  | bastore =>
    cases mlen hk
    exact mk_ast hs kn hA (fun a n f i x r h1 h2 h3 k => mk_zastW hx hb hK h1 h2 (h3.resolve_left (by decide)) hd k)
  | aaload => cases mlen hk; exact mk_aldq hs kn hA hx hb hK hd
  | aastore => cases mlen hk; exact mk_astq hs kn hA hx hb hK hd
  | invokevirtual idx =>
    have hk2 := mand hk
    clear hk
    obtain ⟨hl, hk⟩ := hk2
    cases mlen hl
    cases ha : Nat.blt a 10 with
    | true =>
      simp only [ha, cond_true] at hk
      cases hk
    | false =>
      simp only [mstep, ha, cond_false] at hs
      obtain ⟨q, hq⟩ := minv_call hs
      exact kc q hq ⟨idx, Or.inl rfl⟩
  | invokespecial idx =>
    have hk2 := mand hk
    clear hk
    obtain ⟨hl, hk⟩ := hk2
    cases mlen hl
    cases ha : Nat.blt a 10 with
    | true =>
      simp only [ha, cond_true] at hk
      simp only [mstep, ha, cond_true] at hs
      obtain ⟨h1, h2⟩ := mand hk
      exact mk_spec (index := idx) hs kn hA hC hce hsl hd (Or.inl ⟨mlen h1, rfl, mIn_mem h2⟩)
    | false =>
      simp only [mstep, ha, cond_false] at hs
      obtain ⟨q, hq⟩ := minv_call hs
      exact kc q hq ⟨idx, Or.inr (Or.inl rfl)⟩
  | invokestatic idx =>
    have hk2 := mand hk
    clear hk
    obtain ⟨hl, hk⟩ := hk2
    cases mlen hl
    cases ha : Nat.blt a 10 with
    | true =>
      simp only [ha, cond_true] at hk
      simp only [mstep, ha, cond_true] at hs
      rw [Bool.or_eq_true] at hk
      rcases hk with h9 | hk
      · cases mlen h9
        exact nomatch (show (none : Option mO) = some o from hs)
      rw [Bool.or_eq_true, Bool.or_eq_true, Bool.or_eq_true] at hk
      refine mk_spec (index := idx) hs kn hA hC hce hsl hd (Or.inr ?_)
      rcases hk with hk | hk | hk | hk
      · obtain ⟨h1, h2⟩ := mand hk
        exact Or.inl ⟨mlen h1, rfl, mIn_mem h2⟩
      · obtain ⟨h1, h2⟩ := mand hk
        exact Or.inr (Or.inl ⟨mlen h1, rfl, mIn_mem h2⟩)
      · obtain ⟨h1, h2⟩ := mand hk
        exact Or.inr (Or.inr (Or.inl ⟨mlen h1, rfl, mIn_mem h2⟩))
      · obtain ⟨h1, h2⟩ := mand hk
        exact Or.inr (Or.inr (Or.inr ⟨mlen h1, rfl, mIn_mem h2⟩))
    | false =>
      simp only [mstep, ha, cond_false] at hs
      obtain ⟨q, hq⟩ := minv_call hs
      exact kc q hq ⟨idx, Or.inr (Or.inr rfl)⟩
  | ireturn =>
    simp only [mstep] at hs
    split at hs
    · exact kr _ (Option.some.inj hs).symm ⟨mlen hk, Or.inl ⟨rfl, _, rfl, rfl⟩⟩
    · cases hs
  | areturn =>
    simp only [mstep] at hs
    split at hs
    · rename_i v
      revert hs
      cases v <;> intro hs <;> first | exact kr _ (Option.some.inj hs).symm ⟨mlen hk, Or.inr (Or.inl ⟨rfl, _, rfl, rfl, Or.inl rfl⟩)⟩ | exact kr _ (Option.some.inj hs).symm ⟨mlen hk, Or.inr (Or.inl ⟨rfl, _, rfl, rfl, Or.inr ⟨_, rfl⟩⟩)⟩ | cases hs
    · cases hs
  | return_ =>
    simp only [mstep] at hs
    split at hs
    · exact kr _ (Option.some.inj hs).symm ⟨mlen hk, Or.inr (Or.inr ⟨rfl, rfl, rfl⟩)⟩
    · cases hs
  | _ => exact nomatch (show (none : Option mO) = some o from hs)
end MU
