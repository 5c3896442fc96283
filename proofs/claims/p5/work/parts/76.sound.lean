section SQ
variable {rI : Nat → Option aR} {B : aB} {g : Nat → Int} {ρ md : List Nat} {h0 : mS} {d nL : Nat} {tab : Nat → Option mI} {P : Option Value → mS → Prop} {X : Int} {n : Int} {pc : Nat} {lv : mL} {st : List Value} {h : mS} {x : mI} {L : aL} {K : List aE} {E : aM} {cs : List aC}
theorem ain_ok {t : aV} {v : Value} {m : Nat} (hg : okG B g) (h : ain B t m = true) (hv : hasT g ρ t v) : ∃ y : Int32, v = .int y ∧ ¬ y < 0 ∧ y.toNatClampNeg < m ∧ (y.toNatClampNeg : Int) = y.toInt := by
  unfold ain at h
  split at h
  · rename_i q hq
    obtain ⟨y, rfl, h1, h2⟩ := arng_ok hg hq hv
    obtain ⟨h3, h4⟩ := mand h
    have h3 := of_decide_eq_true h3
    have h4 := of_decide_eq_true h4
    have e0 : (0 : Int32).toInt = 0 := by decide
    have e1 : (y.toNatClampNeg : Int) = y.toInt := by
      show ((y.toInt.toNat : Nat) : Int) = y.toInt
      omega
    exact ⟨y, rfl, fun hh => by have := Int32.lt_iff_toInt_lt.mp hh; omega, by omega, e1⟩
  · cases h
theorem L_af {tag pc' : Nat} (hg : okG B g) (ht : tab pc = some x) (hs : mstep none nL pc lv st h x = (bif Nat.beq tag 1 then mbld pc lv st h else mald 0 pc none lv st h)) (htag : tag = 0 ∨ tag = 1) (hp : pc + 1 = pc') (ha : taf tag B rI pc' L K E = some cs) (hcs : ∀ c ∈ cs, Gs rI g ρ md h0 d nL tab P X n c) (hS : okS rI g ρ md h0 L K lv st h) (hn : mval lv h.1 E ≤ (n : Int) + 1) : mB d nL tab P X E pc lv st h := by
  subst hp
  unfold taf at ha
  split at ha
  · rename_i f e r
    obtain ⟨w, vs, rfl, hF, hK⟩ := hS.2.2.1.inv
    obtain ⟨v, vs, rfl, hE, hK2⟩ := hK.inv
    cases h3 : Nat.beq e.1.1 3 with
    | true =>
      rw [h3, cond_true] at ha
      obtain ⟨k, rfl, hk⟩ := ref_of h3 hE.1
      split at ha
      · rename_i t m lo hi hr
        cases hc : (Nat.beq t tag && ain B f.1 m) with
        | false => rw [hc] at ha; cases ha
        | true =>
          rw [hc, cond_true] at ha
          obtain ⟨p1, p2⟩ := mand hc
          have p1 := mlen p1
          subst p1
          obtain ⟨y, rfl, y1, y2, -⟩ := ain_ok hg p2 hF.1
          obtain ⟨c, c1, xs, rfl, c2, c3⟩ := hS.1.at hk hr
          have hl : y.toNatClampNeg < xs.length := by rw [c2]; exact y2
          have hv : xs[y.toNatClampNeg]? = some (xs[y.toNatClampNeg]'hl) := List.getElem?_eq_getElem hl
          have hmem := c3 _ (List.mem_of_getElem? hv)
          refine stepN ht (st' := .int (xs[y.toNatClampNeg]'hl) :: vs) ?_ (anx_in ha hcs) hS hS.2.1 ⟨hasE0 ⟨_, rfl, hmem.1, hmem.2⟩, hK2⟩ hn
          rw [hs]
          rcases htag with rfl | rfl
          · rw [show Nat.beq 0 1 = false from rfl, cond_false]
            unfold mald
            simp only [c1, Nat.beq_refl, cond_true, if_neg y1, hv, mnx]
          · rw [show Nat.beq 1 1 = true from rfl, cond_true]
            unfold mbld
            simp only
            unfold mald
            simp only [c1, Nat.beq_refl, cond_true, if_neg y1, hv, mnx]
      · cases ha
    | false =>
      rw [h3, cond_false] at ha
      cases hc : (Nat.beq tag 1 && (Nat.beq e.1.1 6 && (Nat.beq e.1.2.1.toNat 2 && ain B f.1 10))) with
      | false => rw [hc] at ha; cases ha
      | true =>
        rw [hc, cond_true] at ha
        obtain ⟨p1, p2⟩ := mand hc
        obtain ⟨p2, p3⟩ := mand p2
        obtain ⟨p3, p4⟩ := mand p3
        have p1 := mlen p1
        subst p1
        have hv := hE.1
        unfold hasT at hv
        rw [mlen p2, mlen p3] at hv
        cases hv
        obtain ⟨y, rfl, y1, y2, -⟩ := ain_ok hg p4 hF.1
        have hl : y.toNatClampNeg < mbyt.length := y2
        have hv : mbyt[y.toNatClampNeg]? = some (mbyt[y.toNatClampNeg]'hl) := List.getElem?_eq_getElem hl
        refine stepN ht (st' := .int (mbyt[y.toNatClampNeg]'hl) :: vs) ?_ (anx_in ha hcs) hS hS.2.1 ⟨hasE0 (a32_ok _), hK2⟩ hn
        rw [hs, show Nat.beq 1 1 = true from rfl, cond_true]
        unfold mbld
        simp only [if_neg y1, hv, mnx]
  · cases ha
theorem L_aq {pc' : Nat} (hg : okG B g) (ht : tab pc = some x) (hs : mstep none nL pc lv st h x = maldq pc lv st h) (hp : pc + 1 = pc') (ha : taq B rI pc' L K E = some cs) (hcs : ∀ c ∈ cs, Gs rI g ρ md h0 d nL tab P X n c) (hS : okS rI g ρ md h0 L K lv st h) (hn : mval lv h.1 E ≤ (n : Int) + 1) : mB d nL tab P X E pc lv st h := by
  subst hp
  unfold taq at ha
  split at ha
  · rename_i f e r
    obtain ⟨w, vs, rfl, hF, hK⟩ := hS.2.2.1.inv
    obtain ⟨v, vs, rfl, hE, hK2⟩ := hK.inv
    cases h3 : Nat.beq e.1.1 3 with
    | false => rw [h3] at ha; cases ha
    | true =>
      rw [h3, cond_true] at ha
      obtain ⟨k, rfl, hk⟩ := ref_of h3 hE.1
      split at ha
      · rename_i t m r' mode hr
        cases hc : (Nat.blt 1 t && (Nat.blt t 6 && ain B f.1 m)) with
        | false => rw [hc] at ha; cases ha
        | true =>
          rw [hc, cond_true] at ha
          obtain ⟨p1, p2⟩ := mand hc
          obtain ⟨p2, p3⟩ := mand p2
          obtain ⟨y, rfl, y1, y2, y3⟩ := ain_ok hg p3 hF.1
          obtain ⟨c, c1, qs, rfl, c2, c3⟩ := hS.1.at hk hr
          have hl : y.toNatClampNeg < qs.length := by rw [c2]; exact y2
          have hv : qs[y.toNatClampNeg]? = some (qs[y.toNatClampNeg]'hl) := List.getElem?_eq_getElem hl
          have hq := c3 _ _ hv
          refine stepN ht (st' := mrf (qs[y.toNatClampNeg]'hl) :: vs) ?_ (anx_in ha hcs) hS hS.2.1 ⟨hasE0 ?_, hK2⟩ hn
          · rw [hs]
            unfold maldq
            simp only [c1, p1, p2, Bool.and_self, cond_true, if_neg y1, hv, mnx]
          · have any : ∀ z : Int, hasT g ρ (4, (r' : Int), z) (mrf (qs[y.toNatClampNeg]'hl)) := by
              intro z
              rcases hq with ⟨e1, -⟩ | ⟨k2, e1, e2⟩
              · rw [e1]; exact Or.inl rfl
              · rw [e1]; exact Or.inr ⟨k2, rfl, e2⟩
            split
            · exact any 0
            · rcases hq with ⟨-, e2⟩ | ⟨k2, e1, e2⟩
              · exact e2.elim
              · rw [e1]; exact ⟨k2, rfl, e2⟩
            · rename_i p
              cases hb : (Nat.beq f.1.1 2 && (Nat.beq f.1.2.1.toNat p && decide (f.1.2.2 < 0))) with
              | false => exact any 0
              | true =>
                obtain ⟨b1, b2⟩ := mand hb
                obtain ⟨b2, b3⟩ := mand b2
                have b3 := of_decide_eq_true b3
                rcases hq with ⟨-, e2⟩ | ⟨k2, e1, e2⟩
                · exfalso
                  have hv := hF.1
                  unfold hasT at hv
                  rw [mlen b1, mlen b2] at hv
                  obtain ⟨y', e, z1, z2⟩ := hv
                  cases e
                  have e2 : g p ≤ (y.toNatClampNeg : Int) := e2
                  omega
                · rw [e1]; exact ⟨k2, rfl, e2⟩
      · cases ha
  · cases ha
/-- an array of a role that may change gets an element -/
theorem vget_arr {k : Nat} {c c' : mC} (hc : h.1[k]? = some c) (h1 : ∃ q, c = .inl q) (h2 : ∃ q, c' = .inl q) : ∀ y, vget lv (h.1.set k c') y = vget lv h.1 y := by
  intro y
  obtain ⟨q, rfl⟩ := h1
  obtain ⟨q', rfl⟩ := h2
  have hl : k < h.1.length := (List.getElem?_eq_some_iff.mp hc).1
  unfold vget
  cases hb : Nat.blt y 1000 with
  | true => rfl
  | false =>
    show vcell _ (mget lv 0) _ = vcell _ (mget lv 0) _
    unfold vcell
    split
    · rename_i a ha
      by_cases he : k = a
      · subst he
        rw [List.getElem?_set_self hl, hc]
      · rw [List.getElem?_set_ne he]
    · rfl
theorem stepA {pc' k r : Nat} {c c' : mC} {st' : List Value} {K' : List aE} (ht : tab pc = some x) (hs : mstep none nL pc lv st h x = some (.inl (pc', lv, st', (h.1.set k c', h.2)))) (hk : ρ[k]? = some r) (hr : awr md r 1 = true) (hH : okH rI g ρ (h.1.set k c')) (hc : h.1[k]? = some c) (h1 : ∃ q, c = .inl q) (h2 : ∃ q, c' = .inl q) (hG : Gs rI g ρ md h0 d nL tab P X n (pc', L, K', tk E)) (hS : okS rI g ρ md h0 L K lv st h) (hK : okK g ρ lv h.1 K' st') (hn : mval lv h.1 E ≤ (n : Int) + 1) : mB d nL tab P X E pc lv st h := by
  have hv := vget_arr (lv := lv) hc h1 h2
  have hK' : okK g ρ lv (h.1.set k c') K' st' := by
    have e : ∀ e : aE, ∀ v, hasE g ρ lv h.1 e v → hasE g ρ lv (h.1.set k c') e v := by
      intro e v hE
      refine ⟨hE.1, ?_⟩
      have hO := hE.2
      revert hO
      cases e.2.1 with
      | zero => intro _; exact trivial
      | succ o =>
        intro hO
        refine ⟨fun ho => ?_, fun ho => ?_⟩
        · rw [hv]; exact hO.1 ho
        · rw [hv]; exact hO.2 ho
    have go : ∀ (K' : List aE) (st' : List Value), okK g ρ lv h.1 K' st' → okK g ρ lv (h.1.set k c') K' st' := by
      intro K'
      induction K' with
      | nil => intro st' hK; cases st' with
        | nil => exact trivial
        | cons => exact hK.elim
      | cons a K' ih => intro st' hK; cases st' with
        | nil => exact hK.elim
        | cons v vs => exact ⟨e _ _ hK.1, ih _ hK.2⟩
    exact go _ _ hK
  refine stepG ht hs hG ⟨hH, fun q hq => by rw [hv]; exact hS.2.1 q hq, hK', hS.2.2.2.1, hS.2.2.2.2.set hk (awr_ok hr).1 ((awr_ok hr).2.imp id (fun z => ⟨z.1, z.2.1, z.2.2.1, fun _ o ho => by
    obtain ⟨q, rfl⟩ := h1
    obtain ⟨q', rfl⟩ := h2
    rw [hc] at ho
    cases ho
    rfl⟩))⟩ ?_ hn
  rw [tk_val]
  have : mval lv (h.1.set k c') E = mval lv h.1 E := by
    unfold mval vint
    simp only [hv]
  show mval lv (h.1.set k c') E - 1 + 1 ≤ _
  omega
theorem L_as {tag pc' : Nat} (hg : okG B g) (ht : tab pc = some x) (hs : mstep none nL pc lv st h x = mast tag pc lv st h) (htag : tag = 0 ∨ tag = 1) (hp : pc + 1 = pc') (ha : tas tag B rI md pc' L K E = some cs) (hcs : ∀ c ∈ cs, Gs rI g ρ md h0 d nL tab P X n c) (hS : okS rI g ρ md h0 L K lv st h) (hn : mval lv h.1 E ≤ (n : Int) + 1) : mB d nL tab P X E pc lv st h := by
  subst hp
  unfold tas at ha
  split at ha
  · rename_i v0 f e r
    obtain ⟨v, vs, rfl, hV, hK⟩ := hS.2.2.1.inv
    obtain ⟨w, vs, rfl, hF, hK⟩ := hK.inv
    rename_i hK0
    obtain ⟨u, vs, rfl, hE, hK2⟩ := hK.inv
    cases h3 : Nat.beq e.1.1 3 with
    | false => rw [h3] at ha; cases ha
    | true =>
      rw [h3, cond_true] at ha
      obtain ⟨k, rfl, hk⟩ := ref_of h3 hE.1
      split at ha
      · rename_i t m lo hi hr
        split at ha
        · rename_i q hq
          cases hc : (Nat.beq t tag && (ain B f.1 m && (decide (lo ≤ q.1) && (decide (q.2 ≤ hi) && ((Nat.beq tag 0 || (decide (0 ≤ q.1) && decide (q.2 ≤ 1))) && awr md e.1.2.1.toNat 1))))) with
          | false => rw [hc] at ha; cases ha
          | true =>
            rw [hc, cond_true] at ha
            obtain ⟨p1, s2⟩ := mand hc
            obtain ⟨p2, s3⟩ := mand s2
            obtain ⟨p3', s4⟩ := mand s3
            obtain ⟨p4', s5⟩ := mand s4
            obtain ⟨p5, p6⟩ := mand s5
            have p1 := mlen p1
            subst p1
            have p3 := of_decide_eq_true p3'
            have p4 := of_decide_eq_true p4'
            obtain ⟨y, rfl, y1, y2, -⟩ := ain_ok hg p2 hF.1
            obtain ⟨z, rfl, z1, z2⟩ := arng_ok hg hq hV.1
            obtain ⟨c, c1, xs, rfl, c2, c3⟩ := hS.1.at hk hr
            have hl : y.toNatClampNeg < xs.length := by rw [c2]; exact y2
            have hbit : (Nat.beq t 0 || (z == 0 || z == 1)) = true := by
              rw [Bool.or_eq_true] at p5
              rcases p5 with p5 | p5
              · rw [p5]; rfl
              · obtain ⟨s1, s2⟩ := mand p5
                have s1 := of_decide_eq_true s1
                have s2 := of_decide_eq_true s2
                have e0 : (0 : Int32).toInt = 0 := by decide
                have e1 : (1 : Int32).toInt = 1 := by decide
                rw [Bool.or_eq_true, Bool.or_eq_true, beq_iff_eq, beq_iff_eq]
                rcases (show z.toInt = 0 ∨ z.toInt = 1 by omega) with h5 | h5
                · exact Or.inr (Or.inl (Int32.toInt_inj.mp (by rw [h5, e0])))
                · exact Or.inr (Or.inr (Int32.toInt_inj.mp (by rw [h5, e1])))
            have hH := hS.1.set (c := .inl (t, .inl (xs.set y.toNatClampNeg z))) hk hr ⟨_, rfl, by rw [List.length_set]; exact c2, fun a ha => by
              rcases List.mem_or_eq_of_mem_set ha with ha | ha
              · exact c3 a ha
              · rw [ha]; exact ⟨by omega, by omega⟩⟩
            refine stepA ht ?_ hk p6 hH c1 ⟨_, rfl⟩ ⟨_, rfl⟩ (anx_in ha hcs) hS hK2 hn
            rw [hs]
            unfold mast
            simp only [c1, Nat.beq_refl, hbit, Bool.and_self, cond_true]
            rw [if_neg (by rintro (h | h); exact y1 h; omega)]
            rfl
        · cases ha
      · cases ha
  · cases ha
theorem L_ln {pc' : Nat} (ht : tab pc = some x) (hs : mstep none nL pc lv st h x = malen pc none lv st h) (hp : pc + 1 = pc') (ha : tln rI pc' L K E = some cs) (hcs : ∀ c ∈ cs, Gs rI g ρ md h0 d nL tab P X n c) (hS : okS rI g ρ md h0 L K lv st h) (hn : mval lv h.1 E ≤ (n : Int) + 1) : mB d nL tab P X E pc lv st h := by
  subst hp
  unfold tln at ha
  split at ha
  · rename_i e r
    obtain ⟨v, vs, rfl, hE, hK2⟩ := hS.2.2.1.inv
    cases h3 : Nat.beq e.1.1 3 with
    | true =>
      rw [h3, cond_true] at ha
      obtain ⟨k, rfl, hk⟩ := ref_of h3 hE.1
      split at ha
      · rename_i t m lo hi hr
        cases hc : (Nat.blt t 6 && Nat.blt m 1000000) with
        | false => rw [hc] at ha; cases ha
        | true =>
          rw [hc, cond_true] at ha
          obtain ⟨p1, p2⟩ := mand hc
          have p2 := Nat.blt_eq.mp p2
          obtain ⟨c, c1, xs, rfl, c2, c3⟩ := hS.1.at hk hr
          have e1 : (Int32.ofNat xs.length).toInt = (m : Int) := by
            rw [c2, Int32.toInt_ofNat']
            exact bmod_id (by omega) (by omega)
          refine stepN ht (st' := .int (Int32.ofNat xs.length) :: vs) ?_ (anx_in ha hcs) hS hS.2.1 ⟨hasE0 ⟨_, rfl, by show (m : Int) ≤ _; omega, by show _ ≤ (m : Int); omega⟩, hK2⟩ hn
          rw [hs]
          unfold malen
          simp only [c1, p1, cond_true, mnx]
      · cases ha
    | false =>
      rw [h3, cond_false] at ha
      cases hc : (Nat.beq e.1.1 6 && Nat.beq e.1.2.1.toNat 2) with
      | false => rw [hc] at ha; cases ha
      | true =>
        rw [hc, cond_true] at ha
        obtain ⟨p1, p2⟩ := mand hc
        have hv := hE.1
        unfold hasT at hv
        rw [mlen p1, mlen p2] at hv
        cases hv
        refine stepN ht (st' := .int 10 :: vs) ?_ (anx_in ha hcs) hS hS.2.1 ⟨hasE0 ⟨10, rfl, by decide, by decide⟩, hK2⟩ hn
        rw [hs]
        rfl
  · cases ha
theorem mcpyL_ok {xs ys : List Int32} {sp dp m : Nat} {lo1 hi1 lo2 hi2 : Int} (h1 : ∀ x ∈ xs, lo1 ≤ x.toInt ∧ x.toInt ≤ hi1) (h2 : ∀ x ∈ ys, lo2 ≤ x.toInt ∧ x.toInt ≤ hi2) (h3 : lo2 ≤ lo1) (h4 : hi1 ≤ hi2) (h5 : lo2 ≤ 0) (h6 : 0 ≤ hi2) : ∀ x ∈ mcpyL xs ys sp dp m, lo2 ≤ x.toInt ∧ x.toInt ≤ hi2 := by
  have e0 : (0 : Int32).toInt = 0 := by decide
  have gd : ∀ (zs : List Int32) (j : Nat) (lo hi : Int), (∀ x ∈ zs, lo ≤ x.toInt ∧ x.toInt ≤ hi) → lo2 ≤ lo → hi ≤ hi2 → lo2 ≤ (zs.getD j 0).toInt ∧ (zs.getD j 0).toInt ≤ hi2 := by
    intro zs j lo hi k1 k2 k3
    rw [List.getD_eq_getElem?_getD]
    cases hz : zs[j]? with
    | none => show lo2 ≤ (0 : Int32).toInt ∧ (0 : Int32).toInt ≤ hi2; omega
    | some z =>
      have := k1 z (List.mem_of_getElem? hz)
      show lo2 ≤ z.toInt ∧ z.toInt ≤ hi2
      omega
  intro x hx
  unfold mcpyL at hx
  obtain ⟨k, -, rfl⟩ := List.mem_map.mp hx
  split
  · exact gd _ _ _ _ h1 h3 h4
  · exact gd _ _ _ _ h2 (Int.le_refl _) (Int.le_refl _)
theorem L_cpy {pc' : Nat} (hg : okG B g) (ht : tab pc = some x) (hs : mstep none nL pc lv st h x = mcpy pc lv st h) (hp : pc + 3 = pc') (ha : tcpy B rI md pc' L K E = some cs) (hcs : ∀ c ∈ cs, Gs rI g ρ md h0 d nL tab P X n c) (hS : okS rI g ρ md h0 L K lv st h) (hn : mval lv h.1 E ≤ (n : Int) + 1) : mB d nL tab P X E pc lv st h := by
  subst hp
  unfold tcpy at ha
  split at ha
  · rename_i en ed f es e r
    obtain ⟨v1, s1, rfl, hN, hK⟩ := hS.2.2.1.inv
    obtain ⟨v2, s2, rfl, hD, hK3⟩ := hK.inv
    obtain ⟨v3, s3, rfl, hF, hK4⟩ := hK3.inv
    obtain ⟨v4, s4, rfl, hP, hK5⟩ := hK4.inv
    obtain ⟨v5, s5, rfl, hE, hK6⟩ := hK5.inv
    cases h3 : (Nat.beq e.1.1 3 && Nat.beq f.1.1 3) with
    | false => rw [h3] at ha; cases ha
    | true =>
      rw [h3, cond_true] at ha
      obtain ⟨h31, h32⟩ := mand h3
      obtain ⟨a, rfl, hka⟩ := ref_of h31 hE.1
      obtain ⟨b, rfl, hkb⟩ := ref_of h32 hF.1
      split at ha
      · rename_i n1 lo1 hi1 n2 lo2 hi2 qn qd qs hr1 hr2 hqn hqd hqs
        cases hc : (!Nat.beq e.1.2.1.toNat f.1.2.1.toNat && (awr md f.1.2.1.toNat 1 && (Nat.ble r.length 8 && decide (0 ≤ qn.1 ∧ 0 ≤ qd.1 ∧ 0 ≤ qs.1 ∧ qs.2 + qn.2 ≤ n1 ∧ qd.2 + qn.2 ≤ n2 ∧ lo2 ≤ lo1 ∧ hi1 ≤ hi2 ∧ lo2 ≤ 0 ∧ 0 ≤ hi2)))) with
        | false => rw [hc] at ha; cases ha
        | true =>
          rw [hc, cond_true] at ha
          obtain ⟨p1, p2⟩ := mand hc
          obtain ⟨p2, p3⟩ := mand p2
          obtain ⟨p3, p4⟩ := mand p3
          obtain ⟨t1, t2, t3, t4, t5, t6, t7, t8, t9⟩ := of_decide_eq_true p4
          obtain ⟨yn, rfl, n3, n4⟩ := arng_ok hg hqn hN.1
          obtain ⟨yd, rfl, d3, d4⟩ := arng_ok hg hqd hD.1
          obtain ⟨ys, rfl, y3, y4⟩ := arng_ok hg hqs hP.1
          have hab : a ≠ b := fun e => by
            subst e
            rw [hka] at hkb
            have hq := Option.some.inj hkb
            rw [hq, Nat.beq_refl] at p1
            cases p1
          obtain ⟨c, c1, xs, rfl, c2, c3⟩ := hS.1.at hka hr1
          obtain ⟨c, b1, zs, rfl, b2, b3⟩ := hS.1.at hkb hr2
          have e0 : (0 : Int32).toInt = 0 := by decide
          have cl : ∀ y : Int32, 0 ≤ y.toInt → (y.toNatClampNeg : Int) = y.toInt := by
            intro y hy
            show ((y.toInt.toNat : Nat) : Int) = y.toInt
            omega
          have cn := cl yn (by omega)
          have cd := cl yd (by omega)
          have cp := cl ys (by omega)
          obtain ⟨m1, m2⟩ := hK6.mone
          have hH := hS.1.set (c := .inl (0, .inl (mcpyL xs zs ys.toNatClampNeg yd.toNatClampNeg yn.toNatClampNeg))) hkb hr2 ⟨_, rfl, by unfold mcpyL; rw [List.length_map, List.length_range]; exact b2, mcpyL_ok c3 b3 t6 t7 t8 t9⟩
          refine stepA ht ?_ hkb p2 hH b1 ⟨_, rfl⟩ ⟨_, rfl⟩ (anx_in ha hcs) hS hK6 hn
          rw [hs]
          unfold mcpy
          simp only [c1, b1]
          rw [if_neg]
          · rfl
          · rintro ((q | q | q) | q | q | q | q | q)
            · have := Int32.lt_iff_toInt_lt.mp q; omega
            · have := Int32.lt_iff_toInt_lt.mp q; omega
            · have := Int32.lt_iff_toInt_lt.mp q; omega
            · omega
            · omega
            · exact hab q
            · have := Nat.le_of_ble_eq_true p3; omega
            · rw [m1] at q; cases q
      · cases ha
  · cases ha
end SQ
