/-! parameters that change; segments -/
def gup (g : Nat → Int) (p : Nat) (v : Int) : Nat → Int := fun q => if q = p then v else g q
def anpT (p : Nat) (t : aV) : Bool := !((Nat.beq t.1 1 || Nat.beq t.1 2) && Nat.beq t.2.1.toNat p)
def anpR (p : Nat) (R : aR) : Bool := match R with
  | .inl (_, fts) => fts.all (anpT p)
  | .inr (.inl _) => true
  | .inr (.inr (_, _, _, mode)) => !Nat.beq mode (p + 2)
theorem hasT_upd {g : Nat → Int} {ρ : List Nat} {p : Nat} {w : Int} {t : aV} {v : Value} (hn : anpT p t = true) (hv : hasT g ρ t v) : hasT (gup g p w) ρ t v := by
  have key : (t.1 = 1 ∨ t.1 = 2) → gup g p w t.2.1.toNat = g t.2.1.toNat := by
    intro h
    unfold gup
    rw [if_neg]
    intro e
    unfold anpT at hn
    rw [e, Nat.beq_refl] at hn
    rcases h with h | h <;> rw [h] at hn <;> cases hn
  unfold hasT at hv ⊢
  split at hv
  · exact hv
  · rename_i e
    rw [key (Or.inl e)]
    exact hv
  · rename_i e
    rw [key (Or.inr e)]
    exact hv
  · exact hv
  · exact hv
  · exact hv
  · exact hv
  · exact hv
theorem okC_upd {g : Nat → Int} {ρ : List Nat} {p : Nat} {w : Int} {R : aR} {c : mC} (hn : anpR p R = true) (hc : okC g ρ R c) : okC (gup g p w) ρ R c := by
  unfold okC at hc ⊢
  unfold anpR at hn
  split at hc
  · obtain ⟨fs, e1, e2, e3⟩ := hc
    exact ⟨fs, e1, e2, fun j t v h1 h2 => hasT_upd (List.all_eq_true.mp hn t (List.mem_of_getElem? h1)) (e3 j t v h1 h2)⟩
  · exact hc
  · rename_i t n rr mode
    obtain ⟨qs, e1, e2, e3⟩ := hc
    refine ⟨qs, e1, e2, fun j q h1 => ?_⟩
    rcases e3 j q h1 with ⟨h2, h3⟩ | h2
    · refine Or.inl ⟨h2, ?_⟩
      unfold aNul at h3 ⊢
      split at h3
      · trivial
      · exact h3
      · rename_i p'
        have hn : (!Nat.beq (p' + 2) (p + 2)) = true := hn
        unfold gup
        rw [if_neg]
        · exact h3
        · intro e
          rw [e, Nat.beq_refl] at hn
          cases hn
    · exact Or.inr h2
/-- a parameter changes: the roles that speak of it are looked at -/
theorem okH_upd {rI : Nat → Option aR} {g : Nat → Int} {ρ : List Nat} {h : List mC} {p : Nat} {w : Int} (hH : okH rI g ρ h) (hx : ∀ (k r : Nat) (R : aR) (c : mC), ρ[k]? = some r → h[k]? = some c → rI r = some R → anpR p R = false → okC (gup g p w) ρ R c) : okH rI (gup g p w) ρ h := by
  refine ⟨hH.1, fun k r c h1 h2 => ?_, hH.2.2⟩
  obtain ⟨R, e1, e2⟩ := hH.2.1 k r c h1 h2
  refine ⟨R, e1, ?_⟩
  cases hb : anpR p R with
  | true => exact okC_upd hb e2
  | false => exact hx k r R c h1 h2 e1 hb
/-- which roles speak of parameter p -/
def aspk (p : Nat) : List Nat := (List.range aRl.length).filter (fun r => match rI0 r with | some R => !anpR p R | none => false)
theorem aspk_ok {p r : Nat} {R : aR} (h1 : rI0 r = some R) (h2 : anpR p R = false) : r ∈ aspk p := by
  unfold aspk
  refine List.mem_filter.mpr ⟨List.mem_range.mpr ?_, ?_⟩
  · unfold rI0 at h1
    split at h1
    · rename_i q hq
      exact (List.getElem?_eq_some_iff.mp hq).1
    · cases h1
  · rw [h1]
    show (!anpR p R) = true
    rw [h2]
    rfl
/-- a segment: heads checked, exits known -/
theorem seg_ok {B : aB} {g : Nat → Int} {ρ md : List Nat} {h0 : mS} {d nL n0 f : Nat} {tab : Nat → Option mI} {P : Option Value → mS → Prop} {X : Int} {rt : Option aV} {anl : List (Nat × aAn)} {cal : List (Nat × Nat)} {exl : List Nat} (hX : 0 ≤ X) (hg : okG B g) (hct : ∀ i q, ctU n0 i = some q → CT rI0 B d q) (hP : ∀ r h', okH rI0 g ρ h'.1 → okFr ρ md h0 h' → okR0 g ρ rt r → P r h') (hk : anl.all (fun q => exl.elem q.1 || ahead B rI0 (ctU n0) (alook cal) md rt nL tab (anaf anl) f q.1) = true)
    (hex : ∀ (pc : Nat) (A : aAn) (m : Int), anaf anl pc = some A → pc ∈ exl → Gs rI0 g ρ md h0 d nL tab P X m (pc, A)) : ∀ (m : Int) (pc : Nat) (A : aAn), anaf anl pc = some A → Gs rI0 g ρ md h0 d nL tab P X m (pc, A) := by
  refine aheads_ok (f := f) (ex := fun pc => exl.elem pc) (ca := alook cal) (ct := ctU n0) (rt := rt) hX hg hct hP (fun pc hpc => ?_) (fun pc A m h1 h2 => hex pc A m h1 (elem_mem h2))
  by_cases hx : ∃ q ∈ anl, q.1 = pc
  · obtain ⟨q, hq, rfl⟩ := hx
    have := List.all_eq_true.mp hk q hq
    rw [Bool.or_eq_true] at this
    rcases this with h | h
    · rw [hpc] at h; cases h
    · exact h
  · unfold ahead
    have : anaf anl pc = none := by
      unfold anaf
      rw [Option.map_eq_none_iff, List.find?_eq_none]
      intro q hq h9
      exact hx ⟨q, hq, mlen h9⟩
    rw [this]
/-- nothing has changed -/
theorem same_of {rI : Nat → Option aR} {g : Nat → Int} {ρ : List Nat} {h h' : mS} (h1 : okH rI g ρ h.1) (h2 : okH rI g ρ h'.1) (h3 : okFr ρ [] h h') : h' = h := by
  have e1 : h'.1 = h.1 := by
    apply List.ext_getElem?
    intro i
    by_cases hi : i < ρ.length
    · exact h3.1 i _ (List.getElem?_eq_getElem hi) (by intro hh; cases hh)
    · rw [List.getElem?_eq_none (by rw [← h2.1]; omega), List.getElem?_eq_none (by rw [← h1.1]; omega)]
  exact Prod.ext e1 h3.2.1
/-- a cell is written and a parameter changes with it -/
theorem okH_updset {rI : Nat → Option aR} {g : Nat → Int} {ρ : List Nat} {h : List mC} {p k0 r0 : Nat} {w : Int} {R0 : aR} {c0 : mC} (hH : okH rI g ρ h) (hk : ρ[k0]? = some r0) (hr : rI r0 = some R0) (hc : okC (gup g p w) ρ R0 c0) (hx : ∀ (k r : Nat) (R : aR) (c : mC), k ≠ k0 → ρ[k]? = some r → h[k]? = some c → rI r = some R → anpR p R = false → okC (gup g p w) ρ R c) : okH rI (gup g p w) ρ (h.set k0 c0) := by
  refine ⟨by rw [List.length_set]; exact hH.1, fun k r c h1 h2 => ?_, hH.2.2⟩
  by_cases he : k0 = k
  · subst he
    have hl : k0 < h.length := by rw [← hH.1]; exact (List.getElem?_eq_some_iff.mp hk).1
    rw [List.getElem?_set_self hl] at h2
    cases h2
    rw [hk] at h1
    cases h1
    exact ⟨R0, hr, hc⟩
  · rw [List.getElem?_set_ne he] at h2
    obtain ⟨R, e1, e2⟩ := hH.2.1 k r c h1 h2
    refine ⟨R, e1, ?_⟩
    cases hb : anpR p R with
    | true => exact okC_upd hb e2
    | false => exact hx k r R c (fun e => he e.symm) h1 h2 e1 hb
theorem gup_self {g : Nat → Int} {p : Nat} {w : Int} : gup g p w p = w := by unfold gup; rw [if_pos rfl]
theorem gup_upd {g : Nat → Int} {p : Nat} {w : Int} : gup (gup g p w) p (g p) = g := by
  funext q
  unfold gup
  split
  · rename_i e; rw [e]
  · rfl
