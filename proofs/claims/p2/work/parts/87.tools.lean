/-! parameters that change; segments -/
def upd (g : Nat → Int) (p : Nat) (v : Int) : Nat → Int := fun q => if q = p then v else g q
def anpT (p : Nat) (t : aV) : Bool := !((Nat.beq t.1 1 || Nat.beq t.1 2) && Nat.beq t.2.1.toNat p)
def anpR (p : Nat) (R : aR) : Bool := match R with
  | .inl (_, fts) => fts.all (anpT p)
  | .inr (.inl _) => true
  | .inr (.inr (_, _, _, mode)) => !Nat.beq mode (p + 2)
theorem hasT_upd {g : Nat → Int} {ρ : List Nat} {p : Nat} {w : Int} {t : aV} {v : Value} (hn : anpT p t = true) (hv : hasT g ρ t v) : hasT (upd g p w) ρ t v := by
  have key : (t.1 = 1 ∨ t.1 = 2) → upd g p w t.2.1.toNat = g t.2.1.toNat := by
    intro h
    unfold upd
    rw [if_neg]
    intro e
    unfold anpT at hn
    rw [e, Nat.beq_refl] at hn
    rcases h with h | h <;> rw [h] at hn <;> cases hn
  unfold hasT at hv ⊢
  split at hv
  · exact hv
  · rename_i e
    rw [key (Or.inl e)]
    exact hv
  · rename_i e
    rw [key (Or.inr e)]
    exact hv
  · exact hv
  · exact hv
  · exact hv
  · exact hv
  · exact hv
theorem okC_upd {g : Nat → Int} {ρ : List Nat} {p : Nat} {w : Int} {R : aR} {c : mC} (hn : anpR p R = true) (hc : okC g ρ R c) : okC (upd g p w) ρ R c := by
  unfold okC at hc ⊢
  unfold anpR at hn
  split at hc
  · obtain ⟨fs, e1, e2, e3⟩ := hc
    exact ⟨fs, e1, e2, fun j t v h1 h2 => hasT_upd (List.all_eq_true.mp hn t (List.mem_of_getElem? h1)) (e3 j t v h1 h2)⟩
  · exact hc
  · rename_i t n rr mode
    obtain ⟨qs, e1, e2, e3⟩ := hc
    refine ⟨qs, e1, e2, fun j q h1 => ?_⟩
    rcases e3 j q h1 with ⟨h2, h3⟩ | h2
    · refine Or.inl ⟨h2, ?_⟩
      unfold aNul at h3 ⊢
      split at h3
      · trivial
      · exact h3
      · rename_i p'
        have hn : (!Nat.beq (p' + 2) (p + 2)) = true := hn
        unfold upd
        rw [if_neg]
        · exact h3
        · intro e
          rw [e, Nat.beq_refl] at hn
          cases hn
    · exact Or.inr h2
/-- a parameter changes: the roles that speak of it are looked at -/
theorem okH_upd {rI : Nat → Option aR} {g : Nat → Int} {ρ : List Nat} {h : List mC} {p : Nat} {w : Int} (hH : okH rI g ρ h) (hx : ∀ k r R c, ρ[k]? = some r → h[k]? = some c → rI r = some R → anpR p R = false → okC (upd g p w) ρ R c) : okH rI (upd g p w) ρ h := by
  refine ⟨hH.1, fun k r c h1 h2 => ?_, hH.2.2⟩
  obtain ⟨R, e1, e2⟩ := hH.2.1 k r c h1 h2
  refine ⟨R, e1, ?_⟩
  cases hb : anpR p R with
  | true => exact okC_upd hb e2
  | false => exact hx k r R c h1 h2 e1 hb
/-- which roles speak of parameter p -/
def aspk (p : Nat) : List Nat := (List.range aRl.length).filter (fun r => match rI0 r with | some R => !anpR p R | none => false)
theorem aspk_ok {p r : Nat} {R : aR} (h1 : rI0 r = some R) (h2 : anpR p R = false) : r ∈ aspk p := by
  unfold aspk
  refine List.mem_filter.mpr ⟨List.mem_range.mpr ?_, ?_⟩
  · unfold rI0 at h1
    split at h1
    · rename_i q hq
      exact (List.getElem?_eq_some_iff.mp hq).1
    · cases h1
  · rw [h1]
    show (!anpR p R) = true
    rw [h2]
    rfl
/-- a segment: heads checked, exits known -/
theorem seg_ok {B : aB} {g : Nat → Int} {ρ md : List Nat} {h0 : mS} {d nL n0 f : Nat} {tab : Nat → Option mI} {P : Option Value → mS → Prop} {rt : Option aV} {anl : List (Nat × aAn)} {cal : List (Nat × Nat)} {exl : List Nat} (hg : okG B g) (hct : ∀ i q, ctU n0 i = some q → CT rI0 B d q) (hP : ∀ r h', okH rI0 g ρ h'.1 → okFr ρ md h0 h' → okR0 g ρ rt r → P r h') (hk : anl.all (fun q => exl.elem q.1 || ahead B rI0 (ctU n0) (alook cal) md rt nL tab (anaf anl) f q.1) = true)
    (hex : ∀ (pc : Nat) (A : aAn) (m : Int), anaf anl pc = some A → pc ∈ exl → Gs rI0 g ρ md h0 d nL tab P m (pc, A)) : ∀ (m : Int) (pc : Nat) (A : aAn), anaf anl pc = some A → Gs rI0 g ρ md h0 d nL tab P m (pc, A) := by
  refine aheads_ok (f := f) (ex := fun pc => exl.elem pc) (ca := alook cal) (ct := ctU n0) (rt := rt) hg hct hP (fun pc hpc => ?_) (fun pc A m h1 h2 => hex pc A m h1 (elem_mem h2))
  by_cases hx : ∃ q ∈ anl, q.1 = pc
  · obtain ⟨q, hq, rfl⟩ := hx
    have := List.all_eq_true.mp hk q hq
    rw [Bool.or_eq_true] at this
    rcases this with h | h
    · rw [hpc] at h; cases h
    · exact h
  · unfold ahead
    have : anaf anl pc = none := by
      unfold anaf
      rw [Option.map_eq_none_iff, List.find?_eq_none]
      intro q hq h9
      exact hx ⟨q, hq, mlen h9⟩
    rw [this]
/-- nothing has changed -/
theorem same_of {rI : Nat → Option aR} {g : Nat → Int} {ρ : List Nat} {h h' : mS} (h1 : okH rI g ρ h.1) (h2 : okH rI g ρ h'.1) (h3 : okFr ρ [] h h') : h' = h := by
  have e1 : h'.1 = h.1 := by
    apply List.ext_getElem?
    intro i
    by_cases hi : i < ρ.length
    · exact h3.1 i _ (List.getElem?_eq_getElem hi) (by intro hh; cases hh)
    · rw [List.getElem?_eq_none (by rw [← h2.1]; omega), List.getElem?_eq_none (by rw [← h1.1]; omega)]
  exact Prod.ext e1 h3.2
/-- a cell is written and a parameter changes with it -/
theorem okH_updset {rI : Nat → Option aR} {g : Nat → Int} {ρ : List Nat} {h : List mC} {p k0 r0 : Nat} {w : Int} {R0 : aR} {c0 : mC} (hH : okH rI g ρ h) (hk : ρ[k0]? = some r0) (hr : rI r0 = some R0) (hc : okC (upd g p w) ρ R0 c0) (hx : ∀ k r R c, k ≠ k0 → ρ[k]? = some r → h[k]? = some c → rI r = some R → anpR p R = false → okC (upd g p w) ρ R c) : okH rI (upd g p w) ρ (h.set k0 c0) := by
  refine ⟨by rw [List.length_set]; exact hH.1, fun k r c h1 h2 => ?_, hH.2.2⟩
  by_cases he : k0 = k
  · subst he
    have hl : k0 < h.length := by rw [← hH.1]; exact (List.getElem?_eq_some_iff.mp hk).1
    rw [List.getElem?_set_self hl] at h2
    cases h2
    rw [hk] at h1
    cases h1
    exact ⟨R0, hr, hc⟩
  · rw [List.getElem?_set_ne he] at h2
    obtain ⟨R, e1, e2⟩ := hH.2.1 k r c h1 h2
    refine ⟨R, e1, ?_⟩
    cases hb : anpR p R with
    | true => exact okC_upd hb e2
    | false => exact hx k r R c (fun e => he e.symm) h1 h2 e1 hb
/-- two cells take other roles, a parameter changes -/
def chk2 (a b a' b' p : Nat) : Bool := (List.range aRl.length).all (fun r => (Nat.beq r a || (Nat.beq r b || (Nat.beq r a' || Nat.beq r b'))) || (match rI0 r with | some R => anoR a R && (anoR b R && anpR p R) | none => true))
theorem okH_two {g : Nat → Int} {ρ : List Nat} {h : List mC} {m o a b a' b' p : Nat} {w : Int} {Ra Rb : aR} (hH : okH rI0 g ρ h) (hm : ρ[m]? = some a) (ho : ρ[o]? = some b) (hmo : m ≠ o) (ga : grp a' = grp a) (gb : grp b' = grp b) (na : grp a ≠ 0) (nb : grp b ≠ 0) (hk : chk2 a b a' b' p = true) (hra : rI0 a' = some Ra) (hrb : rI0 b' = some Rb)
    (hcm : ∀ c, h[m]? = some c → okC (upd g p w) ((ρ.set m a').set o b') Ra c) (hco : ∀ c, h[o]? = some c → okC (upd g p w) ((ρ.set m a').set o b') Rb c) : okH rI0 (upd g p w) ((ρ.set m a').set o b') h := by
  have hlm : m < ρ.length := (List.getElem?_eq_some_iff.mp hm).1
  have hlo : o < ρ.length := (List.getElem?_eq_some_iff.mp ho).1
  have ho2 : (ρ.set m a')[o]? = some b := by rw [List.getElem?_set_ne hmo]; exact ho
  refine ⟨by rw [List.length_set, List.length_set]; exact hH.1, fun k r c h1 h2 => ?_, uqR_set gb ho2 (uqR_set ga hm hH.2.2)⟩
  by_cases hko : o = k
  · subst hko
    rw [List.getElem?_set_self (by rw [List.length_set]; exact hlo)] at h1
    cases h1
    exact ⟨Rb, hrb, hco c h2⟩
  · rw [List.getElem?_set_ne hko] at h1
    by_cases hkm : m = k
    · subst hkm
      rw [List.getElem?_set_self hlm] at h1
      cases h1
      exact ⟨Ra, hra, hcm c h2⟩
    · rw [List.getElem?_set_ne hkm] at h1
      obtain ⟨R, e1, e2⟩ := hH.2.1 k r c h1 h2
      refine ⟨R, e1, ?_⟩
      have hrl : r < aRl.length := by
        unfold rI0 at e1
        split at e1
        · rename_i q hq
          exact (List.getElem?_eq_some_iff.mp hq).1
        · cases e1
      have hc := List.all_eq_true.mp hk r (List.mem_range.mpr hrl)
      rw [e1] at hc
      have ne : ∀ s k2, ρ[k2]? = some s → grp s ≠ 0 → k ≠ k2 → ∀ s', grp s' = grp s → Nat.beq r s' = false := by
        intro s k2 q1 q2 q3 s' q4
        cases hb : Nat.beq r s' with
        | false => rfl
        | true =>
          exfalso
          have e := mlen hb
          subst e
          exact q3 (hH.2.2 k k2 r s h1 q1 q4 (by rw [q4]; exact q2))
      rw [ne a m hm na (fun e => hkm e.symm) a rfl, ne b o ho nb (fun e => hko e.symm) b rfl, ne a m hm na (fun e => hkm e.symm) a' ga, ne b o ho nb (fun e => hko e.symm) b' gb] at hc
      simp only [Bool.false_or] at hc
      obtain ⟨k1, k2⟩ := mand hc
      obtain ⟨k2, k3⟩ := mand k2
      exact okC_upd k3 (okC_rn ho2 k2 (okC_rn hm k1 e2))
theorem chk2_f : chk2 18 19 63 64 6 = true := by decide +kernel
theorem chk2_b : chk2 63 64 18 19 6 = true := by decide +kernel
def rOf (r : Nat) : List aV := match rI0 r with | some (.inl q) => q.2 | _ => []
theorem upd_self {g : Nat → Int} {p : Nat} {w : Int} : upd g p w p = w := by unfold upd; rw [if_pos rfl]
theorem upd_upd {g : Nat → Int} {p : Nat} {w : Int} : upd (upd g p w) p (g p) = g := by
  funext q
  unfold upd
  split
  · rename_i e; rw [e]
  · rfl
theorem set_back {ρ : List Nat} {m o a b a' b' : Nat} (hm : ρ[m]? = some a) (ho : ρ[o]? = some b) : ((((ρ.set m a').set o b').set m a).set o b) = ρ := by
  apply List.ext_getElem?
  intro k
  have hlm : m < ρ.length := (List.getElem?_eq_some_iff.mp hm).1
  have hlo : o < ρ.length := (List.getElem?_eq_some_iff.mp ho).1
  by_cases hko : o = k
  · subst hko
    rw [List.getElem?_set_self (by simp only [List.length_set]; exact hlo), ho]
  · rw [List.getElem?_set_ne hko]
    by_cases hkm : m = k
    · subst hkm
      rw [List.getElem?_set_self (by simp only [List.length_set]; exact hlm), hm]
    · rw [List.getElem?_set_ne hkm, List.getElem?_set_ne hko, List.getElem?_set_ne hkm]
