section SP
variable {rI : Nat → Option aR} {B : aB} {g : Nat → Int} {ρ md : List Nat} {h0 : mS} {d nL : Nat} {tab : Nat → Option mI} {P : Option Value → mS → Prop} {X : Int} {n : Int} {pc : Nat} {lv : mL} {st : List Value} {h : mS} {x : mI} {L : aL} {K : List aE} {E : aM} {cs : List aC}
theorem acd_neg {cd : Nat} (hcd : cd < 6) {y z : Int32} : ¬ acd cd y z → acd (ncd cd) y z := by
  intro hn
  match cd, hcd with
  | 0, _ => exact hn
  | 1, _ => exact Classical.not_not.mp hn
  | 2, _ => exact Int32.not_lt.mp hn
  | 3, _ => exact Int32.not_le.mp hn
  | 4, _ => exact Int32.not_lt.mp hn
  | 5, _ => exact Int32.not_le.mp hn
theorem abr_ok {cd pc' : Nat} {e f : aE} {tl : Bool} {y z : Int32} {K1 : List aE} {st1 : List Value} (hg : okG B g) (ht : tab pc = some x) (hs : mstep none nL pc lv st h x = some (.inl (pc', lv, st1, h))) (hE : hasE g ρ lv h.1 e (.int y)) (hF : hasE g ρ lv h.1 f (.int z)) (hz : tl = true → z = 0) (hc : acd cd y z) (hK : okK g ρ lv h.1 K1 st1) (hcs : ∀ c ∈ abr B cd e f tl pc' L K1 E, Gs rI g ρ md h0 d nL tab P X n c) (hS : okS rI g ρ md h0 L K lv st h) (hn : mval lv h.1 E ≤ (n : Int) + 1) : mB d nL tab P X E pc lv st h := by
  obtain ⟨q, e1, e2, e3⟩ := anr_ok hg hE.1 hF.1 hc
  unfold abr at hcs
  rw [e1] at hcs
  refine stepN ht hs (hcs _ List.mem_cons_self) hS ?_ hK hn
  refine okL.nar (okL.nar ?_ hE e2) hF e3
  cases hb : (tl && Nat.beq cd 1) with
  | false => exact hS.2.1
  | true =>
    obtain ⟨b1, b2⟩ := mand hb
    have b2 := mlen b2
    subst b2
    have hz := hz b1
    subst hz
    exact hS.2.1.tell hE (fun e => hc (by cases e; rfl))
theorem L_if2 {cd t pc' : Nat} (hcd : cd < 6) (hg : okG B g) (ht : tab pc = some x) (hs1 : ∀ (y z : Int32) (r : List Value), st = .int z :: .int y :: r → acd cd y z → mstep none nL pc lv st h x = some (.inl (t, lv, r, h))) (hs2 : ∀ (y z : Int32) (r : List Value), st = .int z :: .int y :: r → ¬ acd cd y z → mstep none nL pc lv st h x = some (.inl (pc', lv, r, h))) (ha : tif2 B cd pc' t L K E = some cs) (hcs : ∀ c ∈ cs, Gs rI g ρ md h0 d nL tab P X n c) (hS : okS rI g ρ md h0 L K lv st h) (hn : mval lv h.1 E ≤ (n : Int) + 1) : mB d nL tab P X E pc lv st h := by
  unfold tif2 at ha
  split at ha
  · rename_i f e r
    cases hb : (aint B e.1 && aint B f.1) with
    | false => rw [hb] at ha; cases ha
    | true =>
      rw [hb, cond_true] at ha
      cases ha
      obtain ⟨b1, b2⟩ := mand hb
      obtain ⟨w, vs, rfl, hF, hK⟩ := hS.2.2.1.inv
      obtain ⟨v, vs, rfl, hE, hK2⟩ := hK.inv
      obtain ⟨y, rfl⟩ := aint_ok hg b1 hE.1
      obtain ⟨z, rfl⟩ := aint_ok hg b2 hF.1
      by_cases hc : acd cd y z
      · exact abr_ok hg ht (hs1 y z vs rfl hc) hE hF (fun e => by cases e) hc hK2 (fun c hc => hcs c (List.mem_append_left _ hc)) hS hn
      · exact abr_ok hg ht (hs2 y z vs rfl hc) hE hF (fun e => by cases e) (acd_neg hcd hc) hK2 (fun c hc => hcs c (List.mem_append_right _ hc)) hS hn
  · cases ha
theorem L_if {cd t pc' : Nat} (hcd : cd < 6) (hg : okG B g) (ht : tab pc = some x) (hs1 : ∀ (y : Int32) (r : List Value), st = .int y :: r → acd cd y 0 → mstep none nL pc lv st h x = some (.inl (t, lv, r, h))) (hs2 : ∀ (y : Int32) (r : List Value), st = .int y :: r → ¬ acd cd y 0 → mstep none nL pc lv st h x = some (.inl (pc', lv, r, h))) (ha : tif B cd pc' t L K E = some cs) (hcs : ∀ c ∈ cs, Gs rI g ρ md h0 d nL tab P X n c) (hS : okS rI g ρ md h0 L K lv st h) (hn : mval lv h.1 E ≤ (n : Int) + 1) : mB d nL tab P X E pc lv st h := by
  unfold tif at ha
  split at ha
  · rename_i e r
    cases hb : aint B e.1 with
    | false => rw [hb] at ha; cases ha
    | true =>
      rw [hb, cond_true] at ha
      cases ha
      obtain ⟨v, vs, rfl, hE, hK2⟩ := hS.2.2.1.inv
      obtain ⟨y, rfl⟩ := aint_ok hg hb hE.1
      have hF : hasE g ρ lv h.1 ((0, 0, 0), 0, a32) (.int 0) := hasE0 ⟨0, rfl, by decide, by decide⟩
      by_cases hc : acd cd y 0
      · exact abr_ok hg ht (hs1 y vs rfl hc) hE hF (fun _ => rfl) hc hK2 (fun c hc => hcs c (List.mem_append_left _ hc)) hS hn
      · exact abr_ok hg ht (hs2 y vs rfl hc) hE hF (fun _ => rfl) (acd_neg hcd hc) hK2 (fun c hc => hcs c (List.mem_append_right _ hc)) hS hn
  · cases ha
theorem aobj_mrq {t : aV} {v : Value} (h : aobj t = true) (hv : hasT g ρ t v) : ∃ a, mrq v = some a := by
  unfold aobj at h
  obtain ⟨h1, h2⟩ := mand h
  have h1 := Nat.le_of_ble_eq_true h1
  have h2 := Nat.le_of_ble_eq_true h2
  unfold hasT at hv
  split at hv
  · rename_i e; rw [e] at h1; omega
  · rename_i e; rw [e] at h1; omega
  · rename_i e; rw [e] at h1; omega
  · obtain ⟨k, rfl, -⟩ := hv; exact ⟨_, rfl⟩
  · rcases hv with rfl | ⟨k, rfl, -⟩ <;> exact ⟨_, rfl⟩
  · cases hv; exact ⟨_, rfl⟩
  · rename_i e; rw [e] at h2; omega
  · exact hv.elim
theorem L_ifa {eq : Bool} {t pc' : Nat} (ht : tab pc = some x) (hs : mstep none nL pc lv st h x = mifa eq pc t lv st h) (hp : pc + 3 = pc') (ha : tifa pc' t L K E = some cs) (hcs : ∀ c ∈ cs, Gs rI g ρ md h0 d nL tab P X n c) (hS : okS rI g ρ md h0 L K lv st h) (hn : mval lv h.1 E ≤ (n : Int) + 1) : mB d nL tab P X E pc lv st h := by
  subst hp
  unfold tifa at ha
  split at ha
  · rename_i f e r
    cases hb : (aobj e.1 && aobj f.1) with
    | false => rw [hb] at ha; cases ha
    | true =>
      rw [hb, cond_true] at ha
      cases ha
      obtain ⟨b1, b2⟩ := mand hb
      obtain ⟨w, vs, rfl, hF, hK⟩ := hS.2.2.1.inv
      obtain ⟨v, vs, rfl, hE, hK2⟩ := hK.inv
      obtain ⟨a, ea⟩ := aobj_mrq b1 hE.1
      obtain ⟨b, eb⟩ := aobj_mrq b2 hF.1
      unfold mifa at hs
      simp only [ea, eb] at hs
      cases hq : (decide (a = b) == eq) with
      | true =>
        rw [hq, cond_true] at hs
        exact stepN ht hs (hcs _ List.mem_cons_self) hS hS.2.1 hK2 hn
      | false =>
        rw [hq, cond_false] at hs
        exact stepN ht hs (hcs _ (List.mem_cons_of_mem _ List.mem_cons_self)) hS hS.2.1 hK2 hn
  · cases ha
theorem L_ifn {pn pr : Nat} (ht : tab pc = some x) (hs1 : ∀ r : List Value, st = .null :: r → mstep none nL pc lv st h x = some (.inl (pn, lv, r, h))) (hs2 : ∀ (k : Nat) (r : List Value), st = .ref k :: r → mstep none nL pc lv st h x = some (.inl (pr, lv, r, h))) (ha : tifn pn pr L K E = some cs) (hcs : ∀ c ∈ cs, Gs rI g ρ md h0 d nL tab P X n c) (hS : okS rI g ρ md h0 L K lv st h) (hn : mval lv h.1 E ≤ (n : Int) + 1) : mB d nL tab P X E pc lv st h := by
  unfold tifn at ha
  split at ha
  · rename_i e r
    obtain ⟨v, vs, rfl, hE, hK2⟩ := hS.2.2.1.inv
    split at ha
    · rename_i h3
      cases ha
      have hv := hE.1
      unfold hasT at hv
      rw [h3] at hv
      obtain ⟨k, rfl, -⟩ := hv
      exact stepN ht (hs2 k vs rfl) (hcs _ List.mem_cons_self) hS hS.2.1 hK2 hn
    · rename_i h3
      cases ha
      have hv := hE.1
      unfold hasT at hv
      rw [h3] at hv
      rcases hv with rfl | ⟨k, rfl, hk⟩
      · exact stepN ht (hs1 vs rfl) (hcs _ List.mem_cons_self) hS (hS.2.1.nar hE rfl) hK2 hn
      · exact stepN ht (hs2 k vs rfl) (hcs _ (List.mem_cons_of_mem _ List.mem_cons_self)) hS (hS.2.1.nar hE ⟨k, rfl, hk⟩) hK2 hn
    · rename_i h3
      cases ha
      have hv := hE.1
      unfold hasT at hv
      rw [h3] at hv
      cases hv
      exact stepN ht (hs1 vs rfl) (hcs _ List.mem_cons_self) hS hS.2.1 hK2 hn
    · cases ha
  · cases ha
theorem atgs_mem : ∀ {os : List Int} {cs : List aC} {o : Int}, atgs pc L K E os = some cs → o ∈ os → 0 ≤ (pc : Int) + o ∧ (((pc : Int) + o).toNat, L, K, tk E) ∈ cs
  | [], _, _, _, h => by cases h
  | p :: os, cs, o, ha, h => by
    unfold atgs at ha
    split at ha
    · rename_i c cs' h1 h2
      cases ha
      unfold atg at h1
      split at h1
      · rename_i h0
        cases h1
        rcases List.mem_cons.mp h with rfl | h
        · exact ⟨h0, List.mem_cons_self⟩
        · have := atgs_mem h2 h
          exact ⟨this.1, List.mem_cons_of_mem _ this.2⟩
      · cases h1
    · cases ha
theorem L_sw {os : List Int} (hg : okG B g) (ht : tab pc = some x) (hs : ∀ (y : Int32) (r : List Value), st = .int y :: r → ∃ o ∈ os, mstep none nL pc lv st h x = msw pc o lv r h) (ha : tsw B pc os L K E = some cs) (hcs : ∀ c ∈ cs, Gs rI g ρ md h0 d nL tab P X n c) (hS : okS rI g ρ md h0 L K lv st h) (hn : mval lv h.1 E ≤ (n : Int) + 1) : mB d nL tab P X E pc lv st h := by
  unfold tsw at ha
  split at ha
  · rename_i e r
    cases hb : aint B e.1 with
    | false => rw [hb] at ha; cases ha
    | true =>
      rw [hb, cond_true] at ha
      obtain ⟨v, vs, rfl, hE, hK2⟩ := hS.2.2.1.inv
      obtain ⟨y, rfl⟩ := aint_ok hg hb hE.1
      obtain ⟨o, ho, hs⟩ := hs y vs rfl
      obtain ⟨h1, h2⟩ := atgs_mem ha ho
      unfold msw at hs
      rw [if_pos h1] at hs
      exact stepN ht hs (hcs _ h2) hS hS.2.1 hK2 hn
  · cases ha
theorem lsw_mem : ∀ (ps : List (Int × Int)) (df k : Int), Op.lookupswitch.offset ps df k ∈ df :: ps.map (fun q => q.2)
  | [], df, k => List.mem_cons_self
  | (a, o) :: ps, df, k => by
    rw [Op.lookupswitch.offset_cons]
    split
    · exact List.mem_cons_of_mem _ List.mem_cons_self
    · rcases List.mem_cons.mp (lsw_mem ps df k) with h | h
      · rw [h]; exact List.mem_cons_self
      · exact List.mem_cons_of_mem _ (List.mem_cons_of_mem _ h)
/-- a reference of a role -/
theorem ref_of {t : aV} {v : Value} (h3 : Nat.beq t.1 3 = true) (hv : hasT g ρ t v) : ∃ k, v = .ref k ∧ ρ[k]? = some t.2.1.toNat := by
  unfold hasT at hv
  rw [mlen h3] at hv
  exact hv
theorem athis_ok {e : aE} {v : Value} (ha : athis e = true) (hE : hasE g ρ lv h.1 e v) : mget lv 0 = some v := by
  unfold athis at ha
  obtain ⟨h1, h2⟩ := mand ha
  have h1 := mlen h1
  have := ais_ok h2 hE
  rw [h1] at this
  exact this
theorem vget_f (k : Nat) (hp : List mC) : vget lv hp (1000 + k) = vcell hp (mget lv 0) k := by
  unfold vget
  have : Nat.blt (1000 + k) 1000 = false := by
    cases hb : Nat.blt (1000 + k) 1000 with
    | true => have := Nat.blt_eq.mp hb; omega
    | false => rfl
  rw [this]
  show vcell hp (mget lv 0) (1000 + k - 1000) = _
  rw [show 1000 + k - 1000 = k by omega]
theorem vsame_self {t : aV} {v : Value} (ht : hasT g ρ t v) : vsame v v (0, 0, 0) := by
  have hm := hasT_mone ht
  cases v with
  | int x => exact Or.inr ⟨x, x, rfl, rfl, by show x.toInt + 0 ≤ _; omega, by show _ ≤ x.toInt + 0; omega⟩
  | ref k => exact Or.inl ⟨rfl, rfl⟩
  | null => exact Or.inl ⟨rfl, rfl⟩
  | retAddr k => exact Or.inl ⟨rfl, rfl⟩
  | _ => cases hm
theorem L_gf {a b pc' : Nat} (ht : tab pc = some x) (hs : mstep none nL pc lv st h x = mgetf a b pc lv st h) (hp : pc + 3 = pc') (ha : tgf rI a b pc' L K E = some cs) (hcs : ∀ c ∈ cs, Gs rI g ρ md h0 d nL tab P X n c) (hS : okS rI g ρ md h0 L K lv st h) (hn : mval lv h.1 E ≤ (n : Int) + 1) : mB d nL tab P X E pc lv st h := by
  subst hp
  unfold tgf at ha
  split at ha
  · rename_i e r
    cases h3 : Nat.beq e.1.1 3 with
    | false => rw [h3] at ha; cases ha
    | true =>
      rw [h3, cond_true] at ha
      obtain ⟨v, vs, rfl, hE, hK2⟩ := hS.2.2.1.inv
      obtain ⟨k, rfl, hk⟩ := ref_of h3 hE.1
      split at ha
      · rename_i ci fts hr
        split at ha
        · rename_i t hj
          cases hci : Nat.beq ci a with
          | false => rw [hci] at ha; cases ha
          | true =>
            rw [hci, cond_true] at ha
            have hci := mlen hci
            subst hci
            obtain ⟨fs, v, c1, c2, -, c3⟩ := hS.1.get hk hr hj
            have hst : mstep none nL pc lv (.ref k :: vs) h x = some (.inl (pc + 3, lv, v :: vs, h)) := by
              rw [hs]
              unfold mgetf
              simp only [c1, c2, Nat.beq_refl, cond_true, mnx]
            cases hth : athis e with
            | false =>
              rw [hth, cond_false] at ha
              exact stepN ht hst (anx_in ha hcs) hS hS.2.1 ⟨hasE0 c3, hK2⟩ hn
            | true =>
              rw [hth, cond_true] at ha
              have h0 := athis_ok hth hE
              have hvg : vget lv h.1 (1000 + b) = some v := by
                rw [vget_f, h0]
                unfold vcell
                simp only [c1, c2]
              refine stepN ht hst (anx_in ha hcs) hS hS.2.1 ⟨?_, hK2⟩ hn
              have hty : hasT g ρ (match aget L (1000 + b) with | some t' => t' | none => t) v := by
                cases hl : aget L (1000 + b) with
                | none => exact c3
                | some t' =>
                  obtain ⟨v2, e1, e2⟩ := hS.2.1.get hl
                  rw [hvg] at e1
                  cases e1
                  exact e2
              refine ⟨hty, fun _ => ⟨v, ?_, vsame_self c3⟩, fun h2 => absurd h2 (by omega)⟩
              have : 2 * (1000 + b) / 2 = 1000 + b := by omega
              rw [this]
              exact hvg
        · cases ha
      · cases ha
  · cases ha
theorem L_gs {b pc' : Nat} (ht : tab pc = some x) (hs : mstep none nL pc lv st h x = mgets b pc lv st h) (hp : pc + 3 = pc') (ha : tgs b pc' L K E = some cs) (hcs : ∀ c ∈ cs, Gs rI g ρ md h0 d nL tab P X n c) (hS : okS rI g ρ md h0 L K lv st h) (hn : mval lv h.1 E ≤ (n : Int) + 1) : mB d nL tab P X E pc lv st h := by
  subst hp
  unfold tgs at ha
  split at ha
  · rename_i e r
    cases h3 : (Nat.beq e.1.1 6 && Nat.beq e.1.2.1.toNat 0) with
    | false => rw [h3] at ha; cases ha
    | true =>
      rw [h3, cond_true] at ha
      obtain ⟨h4, h5⟩ := mand h3
      obtain ⟨v, vs, rfl, hE, hK2⟩ := hS.2.2.1.inv
      have hv := hE.1
      unfold hasT at hv
      rw [mlen h4, mlen h5] at hv
      cases hv
      unfold mgets at hs
      simp only at hs
      cases hb : Nat.beq b 0 with
      | true =>
        rw [hb, cond_true] at hs ha
        exact stepN ht hs (anx_in ha hcs) hS hS.2.1 ⟨hasE0 rfl, hK2⟩ hn
      | false =>
        rw [hb, cond_false] at hs ha
        exact stepN ht hs (anx_in ha hcs) hS hS.2.1 ⟨hasE0 ⟨0, rfl, by decide, by decide⟩, hK2⟩ hn
  · cases ha
theorem elem_mem {md : List Nat} {r : Nat} (h : md.elem r = true) : r ∈ md := List.elem_iff.mp h
/-- a cell of a role that may change has changed -/
theorem okFr.set {k r : Nat} {c : mC} (hF : okFr ρ md h0 h) (hk : ρ[k]? = some r) (hr : r ∈ md) (hx : md.elem 53 = true ∨ (r ≠ 51 ∧ r ≠ 52 ∧ r ≠ 53 ∧ (r = 30 → ∀ o, h.1[k]? = some o → wkC c = wkC o)) := by first | exact Or.inr ⟨by decide, by decide, by decide, fun e => absurd e (by decide)⟩ | exact Or.inr ⟨by decide, by decide, by decide, fun _ o e => wk_set (by assumption) e (by decide)⟩) : okFr ρ md h0 (h.1.set k c, h.2) := by
  refine ⟨fun k2 r2 h1 h2 => ?_, hF.2.1, ?_⟩
  · have hne : k ≠ k2 := fun e => by
      subst e
      rw [hk] at h1
      cases h1
      exact h2 hr
    show (h.1.set k c)[k2]? = _
    rw [List.getElem?_set_ne hne]
    exact hF.1 k2 r2 h1 h2
  · rcases hx with hx | hx
    · exact Or.inl hx
    · rcases hF.2.2 with q | q
      · exact Or.inl q
      · exact Or.inr (q.trans (RR.set hk hx))
theorem awr_ok {r b : Nat} (h : awr md r b = true) : r ∈ md ∧ (md.elem 53 = true ∨ (r ≠ 51 ∧ r ≠ 52 ∧ r ≠ 53 ∧ (r = 30 → b ≠ 0))) := by
  obtain ⟨h1, h2⟩ := mand h
  refine ⟨elem_mem h1, ?_⟩
  rw [Bool.or_eq_true] at h2
  rcases h2 with h2 | h2
  · exact Or.inl h2
  · obtain ⟨a1, h2⟩ := mand h2
    obtain ⟨a2, h2⟩ := mand h2
    obtain ⟨a3, h2⟩ := mand h2
    refine Or.inr ⟨fun e => ?_, fun e => ?_, fun e => ?_, fun e1 e2 => ?_⟩
    · rw [e] at a1; cases a1
    · rw [e] at a2; cases a2
    · rw [e] at a3; cases a3
    · rw [e1, e2] at h2; cases h2
theorem afit_ok {ty : FieldType} {t : aV} {v : Value} (hg : okG B g) (h : afit B ty t = true) (hv : hasT g ρ t v) : mfit ty v = true := by
  have obj : aobj t = true → (∀ C, mfit (.object C) v = true) ∧ (∀ C, mfit (.array C) v = true) := by
    intro ho
    obtain ⟨a, ea⟩ := aobj_mrq ho hv
    cases v with
    | ref k => exact ⟨fun _ => rfl, fun _ => rfl⟩
    | null => exact ⟨fun _ => rfl, fun _ => rfl⟩
    | _ => cases ea
  unfold afit at h
  split at h
  · obtain ⟨y, rfl⟩ := aint_ok hg h hv
    rfl
  · split at h
    · rename_i q hq
      obtain ⟨y, rfl, h1, h2⟩ := arng_ok hg hq hv
      obtain ⟨h3, h4⟩ := mand h
      have h3 := of_decide_eq_true h3
      have h4 := of_decide_eq_true h4
      have e0 : (0 : Int32).toInt = 0 := by decide
      have e1 : (1 : Int32).toInt = 1 := by decide
      show (y == 0 || y == 1) = true
      rw [Bool.or_eq_true, beq_iff_eq, beq_iff_eq]
      rcases (show y.toInt = 0 ∨ y.toInt = 1 by omega) with h5 | h5
      · exact Or.inl (Int32.toInt_inj.mp (by rw [h5, e0]))
      · exact Or.inr (Int32.toInt_inj.mp (by rw [h5, e1]))
    · cases h
  · exact (obj h).1 _
  · exact (obj h).2 _
  · cases h
/-- a field of another object is written: what this shows may change only if the roles are the same -/
theorem aoth_C {k r : Nat} {c : mC} (hL : okL g ρ L lv h.1) (hk : ρ[k]? = some r) : ∀ y, aoth L r y = false → vget lv (h.1.set k c) y = vget lv h.1 y := by
  intro y hy
  unfold vget
  cases hb : Nat.blt y 1000 with
  | true => rfl
  | false =>
    have h3 : 1000 ≤ y := by
      rcases Nat.lt_or_ge y 1000 with h | h
      · rw [Nat.blt_eq.mpr h] at hb; cases hb
      · exact h
    unfold aoth at hy
    rw [Nat.ble_eq.mpr h3, Bool.true_and, Bool.not_eq_false'] at hy
    split at hy
    · rename_i t ht
      obtain ⟨h4, h5⟩ := mand hy
      obtain ⟨v, e1, e2⟩ := hL.get ht
      obtain ⟨k2, rfl, hk2⟩ := ref_of h4 e2
      have e1 : mget lv 0 = some (.ref k2) := e1
      have hne : k ≠ k2 := fun e => by
        subst e
        rw [hk] at hk2
        cases hk2
        rw [Nat.beq_refl] at h5
        cases h5
      show vcell _ (mget lv 0) _ = vcell _ (mget lv 0) _
      rw [e1]
      unfold vcell
      simp only [List.getElem?_set_ne hne]
    · cases hy
theorem L_pf {a b pc' : Nat} (hg : okG B g) (ht : tab pc = some x) (hs : mstep none nL pc lv st h x = mputf a b pc lv st h) (hp : pc + 3 = pc') (ha : tpf B rI md a b pc' L K E = some cs) (hcs : ∀ c ∈ cs, Gs rI g ρ md h0 d nL tab P X n c) (hS : okS rI g ρ md h0 L K lv st h) (hn : mval lv h.1 E ≤ (n : Int) + 1) : mB d nL tab P X E pc lv st h := by
  subst hp
  unfold tpf at ha
  split at ha
  · rename_i f e r
    cases h3 : Nat.beq e.1.1 3 with
    | false => rw [h3] at ha; cases ha
    | true =>
      rw [h3, cond_true] at ha
      obtain ⟨w, vs, rfl, hF, hK⟩ := hS.2.2.1.inv
      obtain ⟨v, vs, rfl, hE, hK2⟩ := hK.inv
      obtain ⟨k, rfl, hk⟩ := ref_of h3 hE.1
      split at ha
      · rename_i ci fts hr
        split at ha
        · rename_i t hj
          cases hc : (Nat.beq ci a && (asub B f.1 t && (afit B (mtyOf a b) f.1 && awr md e.1.2.1.toNat b))) with
          | false => rw [hc] at ha; cases ha
          | true =>
            rw [hc, cond_true] at ha
            obtain ⟨p1, p2⟩ := mand hc
            obtain ⟨q2, p3⟩ := mand p2
            obtain ⟨q3, q4⟩ := mand p3
            have q1 := mlen p1
            subst q1
            obtain ⟨fs, v, c1, c2, c4, c3⟩ := hS.1.get hk hr hj
            have hty := asub_ok hg q2 hF.1
            have hjl : b < fs.length := (List.getElem?_eq_some_iff.mp c2).1
            have hst : mstep none nL pc lv (w :: .ref k :: vs) h x = some (.inl (pc + 3, lv, vs, (h.1.set k (.inr (ci, fs.set b w)), h.2))) := by
              rw [hs]
              unfold mputf
              simp only [c1, Nat.beq_refl, afit_ok hg q3 hF.1, Nat.blt_eq.mpr hjl, Bool.true_and, cond_true, mnx]
            have hH := hS.1.put hk hr hj c1 hty
            have hFr := okFr.set (c := .inr (ci, fs.set b w)) hS.2.2.2.2 hk (awr_ok q4).1 ((awr_ok q4).2.imp id (fun z => ⟨z.1, z.2.1, z.2.2.1, fun e o ho => wk_set c1 ho (z.2.2.2 e)⟩))
            cases hth : athis e with
            | true =>
              rw [hth, cond_true] at ha
              unfold aput at ha
              split at ha
              · rename_i q hq
                cases ha
                have h0 := athis_ok hth hE
                have hkl : k < h.1.length := (List.getElem?_eq_some_iff.mp c1).1
                have hC : ∀ y, Nat.beq y (1000 + b) = false → vget lv (h.1.set k (.inr (ci, fs.set b w))) y = vget lv h.1 y := by
                  intro y hy
                  unfold vget
                  cases hb : Nat.blt y 1000 with
                  | true => rfl
                  | false =>
                    have h3 : 1000 ≤ y := by
                      rcases Nat.lt_or_ge y 1000 with h | h
                      · rw [Nat.blt_eq.mpr h] at hb; cases hb
                      · exact h
                    have hne : b ≠ y - 1000 := fun e => by
                      rw [show y = 1000 + b by omega, Nat.beq_refl] at hy
                      cases hy
                    show vcell _ (mget lv 0) _ = vcell _ (mget lv 0) _
                    rw [h0]
                    unfold vcell
                    simp only [List.getElem?_set_self hkl, c1, List.getElem?_set_ne hne]
                have hx : vget lv (h.1.set k (.inr (ci, fs.set b w))) (1000 + b) = some w := by
                  rw [vget_f, h0]
                  unfold vcell
                  simp only [List.getElem?_set_self hkl, List.getElem?_set_self hjl]
                have hm := aEup_ok hg hS.2.1 hC hF (Or.inl hx) hq
                refine stepG ht hst (hcs _ List.mem_cons_self) ⟨hH, (hS.2.1.clr hC).set hx hF.1, hK2.clr hC, hS.2.2.2.1, hFr⟩ ?_ hn
                rw [mval_split] at hm ⊢
                rw [mval_split (E := E)]
                dsimp only at hm ⊢
                omega
              · cases ha
            | false =>
              rw [hth, cond_false] at ha
              unfold achg at ha
              split at ha
              · rename_i q hq
                cases ha
                have hC := aoth_C (c := .inr (ci, fs.set b w)) hS.2.1 hk
                have hm := aEup_ok hg hS.2.1 hC (e := (a32, 0, a32)) (v := .int 0) (hasE0 (a32_ok 0)) (Or.inr rfl) hq
                refine stepG ht hst (hcs _ List.mem_cons_self) ⟨hH, hS.2.1.clr hC, hK2.clr hC, hS.2.2.2.1, hFr⟩ ?_ hn
                rw [mval_split] at hm ⊢
                rw [mval_split (E := E)]
                dsimp only at hm ⊢
                omega
              · cases ha
        · cases ha
      · cases ha
  · cases ha
end SP
