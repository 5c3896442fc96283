section SR
variable {rI : Nat → Option aR} {B : aB} {g : Nat → Int} {ρ md : List Nat} {h0 : mS} {d nL : Nat} {tab : Nat → Option mI} {P : Option Value → mS → Prop} {X : Int} {n : Int} {pc : Nat} {lv : mL} {st : List Value} {h : mS} {x : mI} {L : aL} {K : List aE} {E : aM} {cs : List aC} {ct : Nat → Option aCT}
theorem okK.take {hp : List mC} : ∀ {K : List aE} {st : List Value} (m : Nat), okK g ρ lv hp K st → okK g ρ lv hp (K.take m) (st.take m)
  | [], [], m, _ => by rw [List.take_nil, List.take_nil]; exact trivial
  | _ :: _, _ :: _, 0, _ => trivial
  | _ :: _, _ :: _, m + 1, hK => ⟨hK.1, okK.take m hK.2⟩
theorem okK.drop {hp : List mC} : ∀ {K : List aE} {st : List Value} (m : Nat), okK g ρ lv hp K st → okK g ρ lv hp (K.drop m) (st.drop m)
  | [], [], m, _ => by rw [List.drop_nil, List.drop_nil]; exact trivial
  | _ :: _, _ :: _, 0, hK => hK
  | _ :: _, _ :: _, m + 1, hK => okK.drop m hK.2
theorem okK.append {hp : List mC} {K2 : List aE} {s2 : List Value} : ∀ {K : List aE} {st : List Value}, okK g ρ lv hp K st → okK g ρ lv hp K2 s2 → okK g ρ lv hp (K ++ K2) (st ++ s2)
  | [], [], _, h2 => h2
  | _ :: _, _ :: _, hK, h2 => ⟨hK.1, okK.append hK.2 h2⟩
theorem okK.rev {hp : List mC} : ∀ {K : List aE} {st : List Value}, okK g ρ lv hp K st → okK g ρ lv hp K.reverse st.reverse
  | [], [], _ => trivial
  | _ :: _, _ :: _, hK => by
    rw [List.reverse_cons, List.reverse_cons]
    exact okK.append (okK.rev hK.2) ⟨hK.1, trivial⟩
theorem okK.at {hp : List mC} : ∀ {K : List aE} {st : List Value} {i : Nat} {e : aE}, okK g ρ lv hp K st → K[i]? = some e → ∃ v, st[i]? = some v ∧ hasE g ρ lv hp e v
  | [], _, _, _, _, h => by cases h
  | _ :: _, v :: _, 0, _, hK, h => by cases h; exact ⟨v, rfl, hK.1⟩
  | _ :: _, _ :: _, i + 1, _, hK, h => okK.at (i := i) hK.2 (by simpa using h)
theorem aargs_ok {hp : List mC} (hg : okG B g) : ∀ {A : List aE} {ts : List aV} {vs : List Value}, aargs B A ts = true → okK g ρ lv hp A vs → okA g ρ ts vs
  | [], [], [], _, _ => trivial
  | [], _ :: _, [], ha, _ => by cases ha
  | _ :: _, [], _ :: _, ha, _ => by cases ha
  | _ :: _, _ :: _, _ :: _, ha, hK => by
    obtain ⟨h1, h2⟩ := mand ha
    exact ⟨asub_ok hg h1 hK.1.1, aargs_ok hg h2 hK.2⟩
theorem acC_C {cm : List Nat} {h' : mS} (hL : okL g ρ L lv h.1) (hF : okFr ρ cm h h') : ∀ y, acC L cm y = false → vget lv h'.1 y = vget lv h.1 y := by
  intro y hy
  unfold vget
  cases hb : Nat.blt y 1000 with
  | true => rfl
  | false =>
    have h3 : 1000 ≤ y := by
      rcases Nat.lt_or_ge y 1000 with h | h
      · rw [Nat.blt_eq.mpr h] at hb; cases hb
      · exact h
    unfold acC at hy
    rw [Nat.ble_eq.mpr h3, Bool.true_and, Bool.not_eq_false'] at hy
    split at hy
    · rename_i t ht
      obtain ⟨h4, h5⟩ := mand hy
      obtain ⟨v, e1, e2⟩ := hL.get ht
      obtain ⟨k2, rfl, hk2⟩ := ref_of h4 e2
      have e1 : mget lv 0 = some (.ref k2) := e1
      have hne : t.2.1.toNat ∉ cm := fun hm => by
        rw [List.elem_iff.mpr hm] at h5
        cases h5
      show vcell _ (mget lv 0) _ = vcell _ (mget lv 0) _
      rw [e1]
      unfold vcell
      simp only [hF.1 k2 _ hk2 hne]
    · cases hy
theorem stepC {pc' y : Nat} {as rest : List Value} {r : Option Value} {h' : mS} {L' : aL} {K' : List aE} {E' : aM} (ht : tab pc = some x) (hs : mstep none nL pc lv st h x = some (.inr (.inr (y, as, rest)))) (hp : pc + 3 = pc') (hc : mcall d y as h = some (r, h')) (hG : Gs rI g ρ md h0 d nL tab P X n (pc', L', K', E')) (hS : okS rI g ρ md h0 L' K' lv (r.toList ++ rest) h') (hm : mval lv h'.1 E' + 1 ≤ mval lv h.1 E) (hn : mval lv h.1 E ≤ n + 1) : mB d nL tab P X E pc lv st h := by
  subst hp
  have hn' : mval lv h'.1 E' ≤ n := by omega
  obtain ⟨b, hb, k1⟩ := hG lv _ h' hS hn'
  have hb : (b : Int) ≤ mval lv h'.1 E' + X := hb
  exact ⟨b + 1, by omega, mE_call (s := (pc, lv, st, h)) ht hs ⟨r, h', hc, k1⟩⟩
theorem aret_ok {C : Nat → Bool} {A : List aE} {as : List Value} {ret : Option (aV × Nat × aV)} {r : Option Value} {h' : mS} (hA : okK g ρ lv h.1 A as) (hR : okRt g ρ as ret r) (hC : ∀ y, C y = false → vget lv h'.1 y = vget lv h.1 y) : okK g ρ lv h'.1 (aret C A ret) r.toList := by
  unfold aret
  unfold okRt at hR
  split
  · rw [hR]; exact trivial
  · obtain ⟨v, rfl, h1, -⟩ := hR
    exact ⟨hasE0 h1, trivial⟩
  · rename_i t a w
    obtain ⟨v, rfl, h1, h2⟩ := hR
    split
    · rename_i e he
      cases hb : (ais e && !C (avar e.2.1)) with
      | false => exact ⟨hasE0 h1, trivial⟩
      | true =>
        obtain ⟨b1, b2⟩ := mand hb
        rw [Bool.not_eq_true'] at b2
        obtain ⟨u, e1, e2⟩ := hA.at he
        have e3 := ais_ok b1 e2
        rw [← hC _ b2] at e3
        have hodd : e.2.1 % 2 = 1 := by
          unfold ais at b1
          exact mlen (mand b1).1
        have hav : e.2.1 / 2 = avar e.2.1 := by unfold avar; omega
        refine ⟨⟨h1, ?_⟩, trivial⟩
        refine ⟨fun hh => absurd hh (by omega), fun _ => ?_⟩
        rcases h2 (by show a + 1 ≠ 0; omega) with h3 | ⟨u2, e4, e5⟩
        · exact Or.inl h3
        · have e4 : as[a]? = some u2 := e4
          rw [e1] at e4
          cases e4
          exact Or.inr ⟨u, by rw [hav]; exact e3, e5⟩
    · exact ⟨hasE0 h1, trivial⟩
theorem take_rev {st : List Value} {b : Nat} {v : Value} (h : st[b]? = some v) : (st.take (b + 1)).reverse = v :: (st.take b).reverse := by
  rw [List.take_add_one, h]
  simp
theorem L_inv {kind id y b c pc' : Nat} (hg : okG B g) (hct : ∀ i q, ct i = some q → CT rI B d q) (ht : tab pc = some x) (hs : mstep none nL pc lv st h x = minv kind y b c st h) (hp : pc + 3 = pc') (ha : tinv B rI ct md kind id y b c pc' L K E = some cs) (hcs : ∀ c ∈ cs, Gs rI g ρ md h0 d nL tab P X n c) (hS : okS rI g ρ md h0 L K lv st h) (hn : mval lv h.1 E ≤ n + 1) : mB d nL tab P X E pc lv st h := by
  unfold tinv at ha
  split at ha
  · cases ha
  · rename_i q hq
    cases hcond : tinvB B rI md kind y b c L K q with
    | false => rw [hcond] at ha; cases ha
    | true =>
    rw [hcond, cond_true] at ha
    unfold tinvB at hcond
    obtain ⟨p1, s2⟩ := mand hcond
    obtain ⟨p2, s3⟩ := mand s2
    obtain ⟨p3, s4⟩ := mand s3
    obtain ⟨p4, s5⟩ := mand s4
    obtain ⟨p5, p6⟩ := mand s5
    have p1 := mlen p1
    have p3 := Nat.le_of_ble_eq_true p3
    split at ha
    rotate_left
    · cases ha
    rename_i m hm
    cases ha
    have hlen := hS.2.2.1.mone.2
    have hall := hS.2.2.1.mone.1
    have hCT := hct id q hq
    -- the arguments and what is left of the stack
    have main : ∃ as rest, minv kind y b c st h = some (.inr (.inr (y, as, rest))) ∧ as = (st.take (bif Nat.blt kind 2 then b + 1 else b)).reverse ∧ rest = st.drop (bif Nat.blt kind 2 then b + 1 else b) := by
      have halld : ∀ j, (st.drop j).all mone = true := fun j => by
        rw [List.all_eq_true] at hall ⊢
        exact fun v hv => hall v (List.mem_of_mem_drop hv)
      have hallt : ∀ j, (st.take j).all mone = true := fun j => by
        rw [List.all_eq_true] at hall ⊢
        exact fun v hv => hall v (List.mem_of_mem_take hv)
      cases hk : Nat.blt kind 2 with
      | true =>
        rw [hk, cond_true] at p2
        obtain ⟨q1, q2⟩ := mand p2
        have q1 := Nat.blt_eq.mp q1
        split at q2
        · rename_i e he
          obtain ⟨v, e1, e2⟩ := hS.2.2.1.at he
          have hdr : st.drop b = v :: st.drop (b + 1) := by
            have hb : b < st.length := by omega
            rw [List.drop_eq_getElem_cons hb]
            rw [List.getElem?_eq_getElem hb] at e1
            cases e1
            rfl
          refine ⟨_, _, ?_, rfl, rfl⟩
          rw [cond_true, take_rev e1]
          unfold minv
          rw [hk, cond_true, hdr]
          have hle : Nat.ble b st.length = true := Nat.ble_eq.mpr (by omega)
          have hle2 : Nat.ble (st.drop (b + 1)).length 8 = true := Nat.ble_eq.mpr (by rw [List.length_drop]; omega)
          unfold arecv at q2
          split at q2
          · rename_i h3
            obtain ⟨k, rfl, hk2⟩ := ref_of (by rw [h3]; rfl) e2.1
            split at q2
            · rename_i ci fts hr
              have q2 := mlen q2
              subst q2
              obtain ⟨cc, c1, fs, rfl, -⟩ := hS.1.at hk2 hr
              simp only [c1, Nat.beq_refl, hle, hle2, halld, hallt, Bool.and_self, cond_true]
            · cases q2
          · rename_i h3
            obtain ⟨q3, q4⟩ := mand q2
            have hv := e2.1
            unfold hasT at hv
            rw [h3, mlen q3] at hv
            cases hv
            simp only [q4, hle, hle2, halld, hallt, Bool.and_self, cond_true]
          · cases q2
        · cases q2
      | false =>
        rw [hk, cond_false] at p2
        have q1 := Nat.le_of_ble_eq_true p2
        refine ⟨_, _, ?_, rfl, rfl⟩
        unfold minv
        have hle : Nat.ble b st.length = true := Nat.ble_eq.mpr (by omega)
        have hle2 : Nat.ble (st.drop b).length 8 = true := Nat.ble_eq.mpr (by rw [List.length_drop]; omega)
        simp only [hk, cond_false, hle, hle2, halld, hallt, Bool.and_self, cond_true]
    obtain ⟨as, rest, e1, e2, e3⟩ := main
    have hKA : okK g ρ lv h.1 ((K.take (bif Nat.blt kind 2 then b + 1 else b)).reverse) as := by rw [e2]; exact (hS.2.2.1.take _).rev
    have hKR : okK g ρ lv h.1 (K.drop (bif Nat.blt kind 2 then b + 1 else b)) rest := by rw [e3]; exact hS.2.2.1.drop _
    have hargs := aargs_ok hg p4 hKA
    have htold : ∀ w ∈ q.2.2.1, ∃ v, vcell h.1 as[0]? w.1 = some v ∧ hasT g ρ w.2 v := by
      intro w hw
      unfold atold at p5
      cases hemp : q.2.2.1.isEmpty with
      | true =>
        rw [List.isEmpty_iff] at hemp
        rw [hemp] at hw
        cases hw
      | false =>
        rw [hemp, cond_false] at p5
        split at p5
        · rename_i e A heA
          rw [heA] at hKA
          obtain ⟨b1, b2⟩ := mand p5
          obtain ⟨v, vs, rfl, hE, -⟩ := hKA.inv
          have h00 := athis_ok b1 hE
          have := List.all_eq_true.mp b2 w hw
          split at this
          · rename_i t hl
            obtain ⟨u, e4, e5⟩ := hS.2.1.get hl
            rw [vget_f, h00] at e4
            exact ⟨u, e4, asub_ok hg this e5⟩
          · cases this
        · cases p5
    obtain ⟨r, h', k1, k2, k3, k4⟩ := hCT g ρ as h hg hS.1 hargs htold
    have hC := acC_C hS.2.1 k3
    have hmv := aEup_ok hg hS.2.1 hC (e := (a32, 0, a32)) (v := .int 0) (hasE0 (a32_ok 0)) (Or.inr rfl) hm
    rw [p1] at k1
    refine stepC ht (by rw [hs]; exact e1) hp k1 (hcs _ List.mem_cons_self) ⟨k2, hS.2.1.clr hC, okK.append (aret_ok hKA k4 hC) (hKR.clr hC), hS.2.2.2.1, ⟨fun k2 r2 a1 a2 => ?_, by rw [k3.2.1, hS.2.2.2.2.2.1], ?_⟩⟩ ?_ hn
    · have hne : r2 ∉ q.2.2.2.2 := fun hm => a2 (elem_mem (List.all_eq_true.mp p6 r2 hm))
      rw [k3.1 k2 r2 a1 hne]
      exact hS.2.2.2.2.1 k2 r2 a1 a2
    · rcases k3.2.2 with z | z
      · exact Or.inl (List.all_eq_true.mp p6 53 (elem_mem z))
      · exact hS.2.2.2.2.2.2.imp (fun y => y) (fun y => y.trans z)
    · rw [mval_split] at hmv ⊢
      rw [mval_split (E := E)]
      dsimp only at hmv ⊢
      omega
def okR0 (g : Nat → Int) (ρ : List Nat) (rt : Option aV) (r : Option Value) : Prop := match rt with
  | none => r = none
  | some t => ∃ v, r = some v ∧ hasT g ρ t v
theorem stepR {r : Option Value} (hX : 0 ≤ X) (ht : tab pc = some x) (hs : mstep none nL pc lv st h x = some (.inr (.inl r))) (hP : P r h) (hm : 1 ≤ mval lv h.1 E) : mB d nL tab P X E pc lv st h := ⟨0 + 1, by omega, mE_ret (s := (pc, lv, st, h)) ht hs hP⟩
theorem L_rt {rt : Option aV} {kind : Nat} (hX : 0 ≤ X) (hg : okG B g) (ht : tab pc = some x) (hP : ∀ r h', okH rI g ρ h'.1 → okFr ρ md h0 h' → okR0 g ρ rt r → P r h') (hs0 : kind = 0 → ∀ y : Int32, st = [.int y] → mstep none nL pc lv st h x = some (.inr (.inl (some (.int y))))) (hs1 : kind = 1 → ∀ v a, st = [v] → mrq v = some a → mstep none nL pc lv st h x = some (.inr (.inl (some v)))) (hs2 : kind = 2 → st = [] → mstep none nL pc lv st h x = some (.inr (.inl none)))
    (ha : trt B rt kind L K E = some cs) (hS : okS rI g ρ md h0 L K lv st h) : mB d nL tab P X E pc lv st h := by
  unfold trt at ha
  split at ha
  · rename_i m hm
    cases hd : decide (1 ≤ m) with
    | false => rw [hd] at ha; cases ha
    | true =>
      rw [hd, cond_true] at ha
      have hd := of_decide_eq_true hd
      have hmv := alowE_ok hg hS.2.1 hm
      split at ha
      · rename_i e t
        cases hb : (aint B e.1 && asub B e.1 t) with
        | false => rw [hb] at ha; cases ha
        | true =>
          obtain ⟨b1, b2⟩ := mand hb
          obtain ⟨v, vs, rfl, hE, hK2⟩ := hS.2.2.1.inv
          have := hK2.nil
          subst this
          obtain ⟨y, rfl⟩ := aint_ok hg b1 hE.1
          exact stepR hX ht (hs0 rfl y rfl) (hP _ _ hS.1 hS.2.2.2.2 ⟨_, rfl, asub_ok hg b2 hE.1⟩) (by omega)
      · rename_i e t
        cases hb : (aobj e.1 && asub B e.1 t) with
        | false => rw [hb] at ha; cases ha
        | true =>
          obtain ⟨b1, b2⟩ := mand hb
          obtain ⟨v, vs, rfl, hE, hK2⟩ := hS.2.2.1.inv
          have := hK2.nil
          subst this
          obtain ⟨a, ea⟩ := aobj_mrq b1 hE.1
          exact stepR hX ht (hs1 rfl v a rfl ea) (hP _ _ hS.1 hS.2.2.2.2 ⟨_, rfl, asub_ok hg b2 hE.1⟩) (by omega)
      · have := hS.2.2.1.nil
        exact stepR hX ht (hs2 rfl this) (hP _ _ hS.1 hS.2.2.2.2 rfl) (by omega)
      · cases ha
  · cases ha
end SR
