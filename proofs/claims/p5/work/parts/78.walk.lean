section SW
variable {rI : Nat → Option aR} {B : aB} {g : Nat → Int} {ρ md : List Nat} {h0 : mS} {d nL : Nat} {tab : Nat → Option mI} {P : Option Value → mS → Prop} {X : Int} {n : Int} {pc : Nat} {L : aL} {K : List aE} {E : aM} {cs : List aC} {ct : Nat → Option aCT} {ca : Nat → Nat} {rt : Option aV}
set_option maxHeartbeats 4000000 in
theorem atr_ok {x : mI} (hX : 0 ≤ X) (hg : okG B g) (hct : ∀ i q, ct i = some q → CT rI B d q) (hP : ∀ r h', okH rI g ρ h'.1 → okFr ρ md h0 h' → okR0 g ρ rt r → P r h') (ht : tab pc = some x) (ha : atr B rI ct ca md rt nL pc x L K E = some cs) (hcs : ∀ c ∈ cs, Gs rI g ρ md h0 d nL tab P X n c) : Gs rI g ρ md h0 d nL tab P X (n + 1) (pc, L, K, E) := by
  intro lv st h hS hn
  have hS : okS rI g ρ md h0 L K lv st h := hS
  have hn : mval lv h.1 E ≤ n + 1 := hn
  show mB d nL tab P X E pc lv st h
  obtain ⟨i, len, a, b, c, q4⟩ := x
  cases i with
  | aconst_null => exact L_psh (t := (5, 0, 0)) (v := .null) rfl ht rfl ha hcs hS hn
  | aload i => exact L_ld (fun t v => aref_ok) ht rfl ha hcs hS hn
  | aload_n i => exact L_ld (fun t v => aref_ok) ht rfl ha hcs hS hn
  | iload i => exact L_ld (fun t v => aint_mis hg) ht rfl ha hcs hS hn
  | iload_n i => exact L_ld (fun t v => aint_mis hg) ht rfl ha hcs hS hn
  | astore i => exact L_st hg (fun t v => aref_ok) ht rfl ha hcs hS hn
  | astore_n i => exact L_st hg (fun t v => aref_ok) ht rfl ha hcs hS hn
  | istore i => exact L_st hg (fun t v => aint_mis hg) ht rfl ha hcs hS hn
  | istore_n i => exact L_st hg (fun t v => aint_mis hg) ht rfl ha hcs hS hn
  | iconst k => exact L_con ht rfl ha hcs hS hn
  | bipush k => exact L_con ht rfl ha hcs hS hn
  | sipush k => exact L_con ht rfl ha hcs hS hn
  | ldc k =>
    have ha : (bif Nat.beq a 0 then tcon (Int32.ofNat b) (pc + 2) L K E else anx (pc + 2) L (((6, 0, 0), 0, a32) :: K) E) = some cs := ha
    cases h0 : Nat.beq a 0 with
    | true =>
      rw [h0, cond_true] at ha
      exact L_con ht (by simp only [mstep, h0, cond_true]) ha hcs hS hn
    | false =>
      rw [h0, cond_false] at ha
      exact L_psh (t := (6, 0, 0)) (v := .retAddr 0) rfl ht (by simp only [mstep, h0, cond_false]) ha hcs hS hn
  | iadd => exact L_bin hg ht (fun y z r e => by rw [e]; rfl) ha hcs hS hn
  | isub => exact L_bin hg ht (fun y z r e => by rw [e]; rfl) ha hcs hS hn
  | imul => exact L_bin hg ht (fun y z r e => by rw [e]; rfl) ha hcs hS hn
  | iand => exact L_bin hg ht (fun y z r e => by rw [e]; rfl) ha hcs hS hn
  | ior => exact L_bin hg ht (fun y z r e => by rw [e]; rfl) ha hcs hS hn
  | ixor => exact L_bin hg ht (fun y z r e => by rw [e]; rfl) ha hcs hS hn
  | ishl => exact L_bin hg ht (fun y z r e => by rw [e]; rfl) ha hcs hS hn
  | ishr => exact L_bin hg ht (fun y z r e => by rw [e]; rfl) ha hcs hS hn
  | iushr => exact L_bin hg ht (fun y z r e => by rw [e]; rfl) ha hcs hS hn
  | idiv => exact L_div hg ht (fun y z r e hz => by rw [e]; show (if z = 0 then none else _) = _; rw [if_neg hz]; rfl) ha hcs hS hn
  | irem => exact L_div hg ht (fun y z r e hz => by rw [e]; show (if z = 0 then none else _) = _; rw [if_neg hz]; rfl) ha hcs hS hn
  | ineg => exact L_un (f := fun x => -x) hg ht (fun y r e => by rw [e]; rfl) ha hcs hS hn
  | i2c => exact L_un (f := fun x => (x.toUInt32 % 65536).toInt32) hg ht (fun y r e => by rw [e]; rfl) ha hcs hS hn
  | i2b => exact L_un (f := fun x => x.toInt8.toInt32) hg ht (fun y r e => by rw [e]; rfl) ha hcs hS hn
  | iinc i k => exact L_inc hg ht (fun y h1 h2 => by simp only [mstep, h1, h2, cond_true, mnx]) ha hcs hS hn
  | dup =>
    cases K with
    | nil => cases ha
    | cons e r =>
      obtain ⟨v, vs, rfl, hE, hK2⟩ := hS.2.2.1.inv
      exact stepN ht (st' := v :: v :: vs) (by simp only [mstep, hasT_mone hE.1, cond_true, mnx]) (anx_in ha hcs) hS hS.2.1 ⟨hE, hE, hK2⟩ hn
  | dup2 =>
    cases K with
    | nil => cases ha
    | cons e r =>
      cases r with
      | nil => cases ha
      | cons f r =>
        obtain ⟨v, vs, rfl, hE, hK2⟩ := hS.2.2.1.inv
        obtain ⟨w, vs, rfl, hF, hK3⟩ := hK2.inv
        exact stepN ht (st' := v :: w :: v :: w :: vs) (by simp only [mstep, hasT_mone hE.1, hasT_mone hF.1, Bool.and_self, cond_true, mnx]) (anx_in ha hcs) hS hS.2.1 ⟨hE, hF, hE, hF, hK3⟩ hn
  | pop =>
    cases K with
    | nil => cases ha
    | cons e r =>
      obtain ⟨v, vs, rfl, hE, hK2⟩ := hS.2.2.1.inv
      exact stepN ht (st' := vs) (by simp only [mstep, hasT_mone hE.1, cond_true, mnx]) (anx_in ha hcs) hS hS.2.1 hK2 hn
  | goto o => exact stepN ht rfl (anx_in ha hcs) hS hS.2.1 hS.2.2.1 hn
  | ifCond cd o =>
    cases cd with
    | eq => exact L_if (cd := 0) (by omega) hg ht (fun y r e hc => by rw [e]; exact if_pos hc) (fun y r e hc => by rw [e]; exact if_neg hc) ha hcs hS hn
    | ne => exact L_if (cd := 1) (by omega) hg ht (fun y r e hc => by rw [e]; exact if_pos hc) (fun y r e hc => by rw [e]; exact if_neg hc) ha hcs hS hn
    | lt => exact L_if (cd := 2) (by omega) hg ht (fun y r e hc => by rw [e]; exact if_pos hc) (fun y r e hc => by rw [e]; exact if_neg hc) ha hcs hS hn
    | ge => exact L_if (cd := 3) (by omega) hg ht (fun y r e hc => by rw [e]; exact if_pos hc) (fun y r e hc => by rw [e]; exact if_neg hc) ha hcs hS hn
    | gt => exact L_if (cd := 4) (by omega) hg ht (fun y r e hc => by rw [e]; exact if_pos hc) (fun y r e hc => by rw [e]; exact if_neg hc) ha hcs hS hn
    | le => exact L_if (cd := 5) (by omega) hg ht (fun y r e hc => by rw [e]; exact if_pos hc) (fun y r e hc => by rw [e]; exact if_neg hc) ha hcs hS hn
  | if_icmp cd o =>
    cases cd with
    | eq => exact L_if2 (cd := 0) (by omega) hg ht (fun y z r e hc => by rw [e]; exact if_pos hc) (fun y z r e hc => by rw [e]; exact if_neg hc) ha hcs hS hn
    | ne => exact L_if2 (cd := 1) (by omega) hg ht (fun y z r e hc => by rw [e]; exact if_pos hc) (fun y z r e hc => by rw [e]; exact if_neg hc) ha hcs hS hn
    | lt => exact L_if2 (cd := 2) (by omega) hg ht (fun y z r e hc => by rw [e]; exact if_pos hc) (fun y z r e hc => by rw [e]; exact if_neg hc) ha hcs hS hn
    | ge => exact L_if2 (cd := 3) (by omega) hg ht (fun y z r e hc => by rw [e]; exact if_pos hc) (fun y z r e hc => by rw [e]; exact if_neg hc) ha hcs hS hn
    | gt => exact L_if2 (cd := 4) (by omega) hg ht (fun y z r e hc => by rw [e]; exact if_pos hc) (fun y z r e hc => by rw [e]; exact if_neg hc) ha hcs hS hn
    | le => exact L_if2 (cd := 5) (by omega) hg ht (fun y z r e hc => by rw [e]; exact if_pos hc) (fun y z r e hc => by rw [e]; exact if_neg hc) ha hcs hS hn
  | if_acmp cd o =>
    cases cd with
    | eq => exact L_ifa (eq := true) ht rfl rfl ha hcs hS hn
    | ne => exact L_ifa (eq := false) ht rfl rfl ha hcs hS hn
  | ifnull o => exact L_ifn ht (fun r e => by rw [e]; rfl) (fun k r e => by rw [e]; rfl) ha hcs hS hn
  | ifnonnull o => exact L_ifn ht (fun r e => by rw [e]; rfl) (fun k r e => by rw [e]; rfl) ha hcs hS hn
  | tableswitch df lo hi os =>
    have ha : (bif decide (hi - lo < (os.toList.length : Int)) then tsw B pc (df :: os.toList) L K E else none) = some cs := ha
    cases hsz : decide (hi - lo < (os.toList.length : Int)) with
    | false => rw [hsz] at ha; cases ha
    | true =>
    rw [hsz, cond_true] at ha
    have hsz := of_decide_eq_true hsz
    refine L_sw hg ht (fun y r e => ?_) ha hcs hS hn
    subst e
    by_cases hc : y.toInt < lo ∨ hi < y.toInt
    · exact ⟨df, List.mem_cons_self, by simp only [mstep, if_pos hc]⟩
    · cases ho : os[(y.toInt - lo).toNat]? with
      | none =>
        exfalso
        rw [← Array.getElem?_toList, List.getElem?_eq_none_iff] at ho
        omega
      | some o => exact ⟨o, List.mem_cons_of_mem _ (by
          rw [← Array.getElem?_toList] at ho
          exact List.mem_of_getElem? ho), by simp only [mstep, if_neg hc, ho]⟩
  | lookupswitch df ps => exact L_sw hg ht (fun y r e => by subst e; exact ⟨_, lsw_mem ps.toList df y.toInt, rfl⟩) ha hcs hS hn
  | getfield k =>
    have ha : (bif Nat.beq a 100 then tgs b (pc + 3) L K E else tgf rI a b (pc + 3) L K E) = some cs := ha
    cases h1 : Nat.beq a 100 with
    | true =>
      rw [h1, cond_true] at ha
      exact L_gs ht (by simp only [mstep, h1, cond_true]) rfl ha hcs hS hn
    | false =>
      rw [h1, cond_false] at ha
      exact L_gf ht (by simp only [mstep, h1, cond_false]) rfl ha hcs hS hn
  | getstatic k => exact L_con ht rfl ha hcs hS hn
  | putfield k => exact L_pf hg ht rfl rfl ha hcs hS hn
  | arraylength => exact L_ln ht rfl rfl ha hcs hS hn
  | iaload => exact L_af (tag := 0) hg ht rfl (Or.inl rfl) rfl ha hcs hS hn
  | baload => exact L_af (tag := 1) hg ht rfl (Or.inr rfl) rfl ha hcs hS hn
  | iastore => exact L_as hg ht rfl (Or.inl rfl) rfl ha hcs hS hn
  | bastore => exact L_as hg ht rfl (Or.inr rfl) rfl ha hcs hS hn
  | aaload => exact L_aq hg ht rfl rfl ha hcs hS hn
  | invokevirtual k =>
    have ha : (bif Nat.blt a 10 then none else tinv B rI ct md 0 (ca pc) (a - 10) b (mcl100 c) (pc + 3) L K E) = some cs := ha
    cases h1 : Nat.blt a 10 with
    | true => rw [h1] at ha; cases ha
    | false =>
      rw [h1, cond_false] at ha
      exact L_inv hg hct ht (by simp only [mstep, h1, cond_false]) rfl ha hcs hS hn
  | invokespecial k =>
    have ha : (bif Nat.blt a 10 then none else tinv B rI ct md 1 (ca pc) (a - 10) b (mcl100 c) (pc + 3) L K E) = some cs := ha
    cases h1 : Nat.blt a 10 with
    | true => rw [h1] at ha; cases ha
    | false =>
      rw [h1, cond_false] at ha
      exact L_inv hg hct ht (by simp only [mstep, h1, cond_false]) rfl ha hcs hS hn
  | invokestatic k =>
    have ha : (bif Nat.blt a 10 then tspec B rI md a (pc + 3) L K E else tinv B rI ct md 2 (ca pc) (a - 10) b 0 (pc + 3) L K E) = some cs := ha
    cases h1 : Nat.blt a 10 with
    | true =>
      rw [h1, cond_true] at ha
      have hm : ∀ a st, mstep none nL pc lv st h (.invokestatic k, len, a, b, c, q4) = (bif Nat.blt a 10 then mspec a pc lv st h else minv 2 (a - 10) b 0 st h) := fun a st => rfl
      unfold tspec at ha
      split at ha
      · cases h2 : Nat.ble K.length 10 with
        | false => rw [h2] at ha; cases ha
        | true =>
          rw [h2, cond_true] at ha
          have h2 := Nat.le_of_ble_eq_true h2
          refine L_bin hg ht (fun y z r e => ?_) ha hcs hS hn
          subst e
          obtain ⟨m1, m2⟩ := hS.2.2.1.mone
          rw [List.all_cons, List.all_cons, Bool.and_eq_true, Bool.and_eq_true] at m1
          have e1 : Nat.ble r.length 8 = true := Nat.ble_eq.mpr (by simp only [List.length_cons] at m2; omega)
          rw [hm]
          simp only [mspec, show Nat.blt 1 10 = true from rfl, cond_true, e1, m1.2.2, Bool.and_self, mnx]
          rfl
      · cases h2 : Nat.ble K.length 10 with
        | false => rw [h2] at ha; cases ha
        | true =>
          rw [h2, cond_true] at ha
          have h2 := Nat.le_of_ble_eq_true h2
          refine L_bin hg ht (fun y z r e => ?_) ha hcs hS hn
          subst e
          obtain ⟨m1, m2⟩ := hS.2.2.1.mone
          rw [List.all_cons, List.all_cons, Bool.and_eq_true, Bool.and_eq_true] at m1
          have e1 : Nat.ble r.length 8 = true := Nat.ble_eq.mpr (by simp only [List.length_cons] at m2; omega)
          rw [hm]
          simp only [mspec, show Nat.blt 2 10 = true from rfl, cond_true, e1, m1.2.2, Bool.and_self, mnx]
          rfl
      · cases h2 : Nat.ble K.length 9 with
        | false => rw [h2] at ha; cases ha
        | true =>
          rw [h2, cond_true] at ha
          have h2 := Nat.le_of_ble_eq_true h2
          refine L_un (f := fun x => if 0 ≤ x then x else 0 - x) hg ht (fun y r e => ?_) ha hcs hS hn
          subst e
          obtain ⟨m1, m2⟩ := hS.2.2.1.mone
          rw [List.all_cons, Bool.and_eq_true] at m1
          have e1 : Nat.ble r.length 8 = true := Nat.ble_eq.mpr (by simp only [List.length_cons] at m2; omega)
          rw [hm]
          simp only [mspec, show Nat.blt 3 10 = true from rfl, cond_true, e1, m1.2, Bool.and_self, mnx]
      · exact L_cpy hg ht rfl rfl ha hcs hS hn
      · cases ha
    | false =>
      rw [h1, cond_false] at ha
      exact L_inv hg hct ht (by simp only [mstep, h1, cond_false]) rfl ha hcs hS hn
  | ireturn => exact L_rt (kind := 0) hX hg ht hP (fun _ y e => by rw [e]; rfl) (fun e => by cases e) (fun e => by cases e) ha hS
  | areturn => exact L_rt (kind := 1) hX hg ht hP (fun e => by cases e) (fun _ v a e e2 => by
      rw [e]
      cases v with
      | ref k => rfl
      | null => rfl
      | _ => cases e2) (fun e => by cases e) ha hS
  | return_ => exact L_rt (kind := 2) hX hg ht hP (fun e => by cases e) (fun e => by cases e) (fun _ e => by rw [e]; rfl) ha hS
  | _ => cases ha
end SW
/-! joins and walks -/
/-- a field of this that nothing has told of has its role's type -/
def aext (rI : Nat → Option aR) (L : aL) : aL → aL
  | [] => L
  | q :: qs => bif Nat.ble 1000 q.1 && (aget (aext rI L qs) q.1).isNone then (match aget L 0 with
    | some t => bif Nat.beq t.1 3 then (match rI t.2.1.toNat with
      | some (.inl (_, fts)) => (match fts[q.1 - 1000]? with | some t' => (q.1, t') :: aext rI L qs | none => aext rI L qs)
      | _ => aext rI L qs) else aext rI L qs
    | none => aext rI L qs) else aext rI L qs
def ajL (B : aB) (L L' : aL) : Bool := L'.all (fun q => match aget L q.1 with | some t => asub B t q.2 | none => false)
def ajE (B : aB) (e e' : aE) : Bool := asub B e.1 e'.1 && (Nat.beq e'.2.1 0 || (Nat.beq e.2.1 e'.2.1 && decide (e.2.2 = e'.2.2)))
def ajK (B : aB) : List aE → List aE → Bool
  | [], [] => true
  | e :: es, f :: fs => ajE B e f && ajK B es fs
  | _, _ => false
abbrev aAn : Type := aL × List aE × aM
def ajoin (B : aB) (rI : Nat → Option aR) (L : aL) (K : List aE) (E : aM) (A : aAn) : Bool := ajL B (aext rI L A.1) A.1 && (ajK B K A.2.1 && (match alowE B (aext rI L A.1) (aminus E A.2.2) with | some m => decide (0 ≤ m) | none => false))
def awalk (B : aB) (rI : Nat → Option aR) (ct : Nat → Option aCT) (ca : Nat → Nat) (md : List Nat) (rt : Option aV) (nL : Nat) (tab : Nat → Option mI) (ann : Nat → Option aAn) : Nat → aC → Bool
  | 0, _ => false
  | f + 1, c => match ann c.1 with
    | some A => ajoin B rI c.2.1 c.2.2.1 c.2.2.2 A
    | none => (match tab c.1 with
      | some x => (match atr B rI ct ca md rt nL c.1 x c.2.1 c.2.2.1 c.2.2.2 with
        | some cs => cs.all (awalk B rI ct ca md rt nL tab ann f)
        | none => false)
      | none => false)
/-- a head: its measure is positive, its ways lead to heads -/
def ahead (B : aB) (rI : Nat → Option aR) (ct : Nat → Option aCT) (ca : Nat → Nat) (md : List Nat) (rt : Option aV) (nL : Nat) (tab : Nat → Option mI) (ann : Nat → Option aAn) (f pc : Nat) : Bool := match ann pc with
  | some A => (match alowE B A.1 A.2.2 with | some m => decide (1 ≤ m) | none => false) && (match tab pc with
    | some x => (match atr B rI ct ca md rt nL pc x A.1 A.2.1 A.2.2 with
      | some cs => cs.all (awalk B rI ct ca md rt nL tab ann f)
      | none => false)
    | none => false)
  | none => true
section SX
variable {rI : Nat → Option aR} {B : aB} {g : Nat → Int} {ρ md : List Nat} {h0 : mS} {d nL : Nat} {tab : Nat → Option mI} {P : Option Value → mS → Prop} {X : Int} {n : Int} {pc : Nat} {L : aL} {K : List aE} {E : aM} {cs : List aC} {ct : Nat → Option aCT} {ca : Nat → Nat} {rt : Option aV} {ann : Nat → Option aAn}
theorem aext_ok {lv : mL} {h : List mC} (hH : okH rI g ρ h) (hL : okL g ρ L lv h) : ∀ (L' : aL), okL g ρ (aext rI L L') lv h
  | [] => hL
  | q :: qs => by
    have ih := aext_ok hH hL qs
    unfold aext
    cases hb : (Nat.ble 1000 q.1 && (aget (aext rI L qs) q.1).isNone) with
    | false => exact ih
    | true =>
      rw [cond_true]
      have h1 := Nat.le_of_ble_eq_true (mand hb).1
      split
      · rename_i t ht
        cases h3 : Nat.beq t.1 3 with
        | false => exact ih
        | true =>
          rw [cond_true]
          split
          · rename_i ci fts hr
            split
            · rename_i t' hj
              obtain ⟨v, e1, e2⟩ := hL.get ht
              obtain ⟨k, rfl, hk⟩ := ref_of h3 e2
              obtain ⟨fs, v, c1, c2, -, c3⟩ := hH.get hk hr hj
              have e1 : mget lv 0 = some (.ref k) := e1
              intro w hw
              rcases List.mem_cons.mp hw with rfl | hw
              · refine ⟨v, ?_, c3⟩
                have := vget_f (lv := lv) (q.1 - 1000) h
                rw [show 1000 + (q.1 - 1000) = q.1 by omega, e1] at this
                rw [this]
                unfold vcell
                simp only [c1, c2]
              · exact ih w hw
            · exact ih
          · exact ih
      · exact ih
theorem ajK_ok {lv : mL} {h : List mC} (hg : okG B g) : ∀ {K K' : List aE} {st : List Value}, ajK B K K' = true → okK g ρ lv h K st → okK g ρ lv h K' st
  | [], [], [], _, _ => trivial
  | e :: es, f :: fs, v :: vs, ha, hK => by
    obtain ⟨h1, h2⟩ := mand ha
    obtain ⟨h3, h4⟩ := mand h1
    refine ⟨⟨asub_ok hg h3 hK.1.1, ?_⟩, ajK_ok hg h2 hK.2⟩
    rw [Bool.or_eq_true] at h4
    rcases h4 with h4 | h4
    · rw [mlen h4]; exact trivial
    · obtain ⟨h5, h6⟩ := mand h4
      rw [← mlen h5, ← of_decide_eq_true h6]
      exact hK.1.2
  | [], _ :: _, _, ha, _ => by cases ha
  | _ :: _, [], _, ha, _ => by cases ha
  | _ :: _, _ :: _, [], _, hK => hK.elim
theorem ajoin_ok {A : aAn} (hg : okG B g) (ha : ajoin B rI L K E A = true) (hA : ∀ m : Int, m ≤ n → Gs rI g ρ md h0 d nL tab P X m (pc, A)) : Gs rI g ρ md h0 d nL tab P X n (pc, L, K, E) := by
  intro lv st h hS hn
  have hS : okS rI g ρ md h0 L K lv st h := hS
  have hn : mval lv h.1 E ≤ n := hn
  obtain ⟨h1, h2⟩ := mand ha
  obtain ⟨h2, h3⟩ := mand h2
  split at h3
  · rename_i m hm
    have hX := aext_ok hS.1 hS.2.1 A.1
    have h3 := of_decide_eq_true h3
    have h4 := alowE_ok hg hX hm
    rw [aminus_val] at h4
    have hL' : okL g ρ A.1 lv h.1 := by
      intro q hq
      have := List.all_eq_true.mp h1 q hq
      split at this
      · rename_i t ht
        obtain ⟨v, e1, e2⟩ := hX.get ht
        exact ⟨v, e1, asub_ok hg this e2⟩
      · cases this
    obtain ⟨b, hb, k1⟩ := hA (mval lv h.1 A.2.2) (by omega) lv st h ⟨hS.1, hL', ajK_ok hg h2 hS.2.2.1, hS.2.2.2.1, hS.2.2.2.2⟩ (Int.le_refl _)
    have hb : (b : Int) ≤ mval lv h.1 A.2.2 + X := hb
    exact ⟨b, by show (b : Int) ≤ mval lv h.1 E + X; omega, k1⟩
  · cases h3
theorem awalk_ok (hX : 0 ≤ X) (hg : okG B g) (hct : ∀ i q, ct i = some q → CT rI B d q) (hP : ∀ r h', okH rI g ρ h'.1 → okFr ρ md h0 h' → okR0 g ρ rt r → P r h') : ∀ (f : Nat) (n : Int) (c : aC), awalk B rI ct ca md rt nL tab ann f c = true → (∀ (pc : Nat) (A : aAn) (m : Int), ann pc = some A → m ≤ n → Gs rI g ρ md h0 d nL tab P X m (pc, A)) → Gs rI g ρ md h0 d nL tab P X n c := by
  intro f
  induction f with
  | zero => intro n c ha; cases ha
  | succ f ih =>
    intro n c ha hA
    unfold awalk at ha
    split at ha
    · rename_i A hc
      exact ajoin_ok hg ha (fun m hm => hA _ _ m hc hm)
    · split at ha
      · rename_i x hx
        split at ha
        · rename_i cs hcs
          have e : n = (n - 1) + 1 := by omega
          rw [e]
          refine atr_ok hX hg hct hP hx hcs (fun c' hc' => ih (n - 1) c' (List.all_eq_true.mp ha c' hc') (fun pc A m h1 h2 => hA pc A m h1 (by omega)))
        · cases ha
      · cases ha
/-- all heads that are checked, if those that are not (exits) are known -/
theorem aheads_ok {f : Nat} {ex : Nat → Bool} (hX : 0 ≤ X) (hg : okG B g) (hct : ∀ i q, ct i = some q → CT rI B d q) (hP : ∀ r h', okH rI g ρ h'.1 → okFr ρ md h0 h' → okR0 g ρ rt r → P r h') (hh : ∀ pc, ex pc = false → ahead B rI ct ca md rt nL tab ann f pc = true) (hex : ∀ (pc : Nat) (A : aAn) (m : Int), ann pc = some A → ex pc = true → Gs rI g ρ md h0 d nL tab P X m (pc, A)) : ∀ (m : Int) (pc : Nat) (A : aAn), ann pc = some A → Gs rI g ρ md h0 d nL tab P X m (pc, A) := by
  have key : ∀ (k : Nat) (m : Int) (pc : Nat) (A : aAn), m ≤ (k : Int) → ann pc = some A → Gs rI g ρ md h0 d nL tab P X m (pc, A) := by
    intro k
    induction k with
    | zero =>
      intro m pc A hm hA
      cases he : ex pc with
      | true => exact hex pc A m hA he
      | false =>
        intro lv st h hS hn
        exfalso
        have := hh pc he
        unfold ahead at this
        rw [hA] at this
        obtain ⟨h1, h2⟩ := mand this
        split at h1
        · rename_i b hb
          have h1 := of_decide_eq_true h1
          have h3 := alowE_ok hg hS.2.1 hb
          have hn : mval lv h.1 A.2.2 ≤ m := hn
          have h3 : b ≤ mval lv h.1 A.2.2 := h3
          omega
        · cases h1
    | succ k ih =>
      intro m pc A hm hA
      cases he : ex pc with
      | true => exact hex pc A m hA he
      | false =>
        by_cases hmk : m ≤ (k : Int)
        · exact ih m pc A hmk hA
        · have e : m = (k : Int) + 1 := by omega
          rw [e]
          have := hh pc he
          unfold ahead at this
          rw [hA] at this
          obtain ⟨h1, h2⟩ := mand this
          split at h2
          · rename_i x hx
            split at h2
            · rename_i cs hcs
              exact atr_ok hX hg hct hP hx hcs (fun c' hc' => awalk_ok hX hg hct hP f _ c' (List.all_eq_true.mp h2 c' hc') (fun pc A m h1 h2 => ih m pc A h2 h1))
            · cases h2
          · cases h2
  intro m pc A hA
  exact key m.toNat m pc A (by omega) hA
end SX
