/-! the beginning: both objects as their constructors leave them are well typed -/
def hasTb (g : Nat → Int) (ρ : List Nat) (t : aV) (v : Value) : Bool := match v with
  | .int x => (Nat.beq t.1 0 && (decide (t.2.1 ≤ x.toInt) && decide (x.toInt ≤ t.2.2))) || (Nat.beq t.1 1 && decide (x.toInt = g t.2.1.toNat + t.2.2))
  | .ref k => (Nat.beq t.1 3 || Nat.beq t.1 4) && decide (ρ[k]? = some t.2.1.toNat)
  | .null => Nat.beq t.1 4
  | _ => false
theorem hasTb_ok {g : Nat → Int} {ρ : List Nat} {t : aV} {v : Value} (h : hasTb g ρ t v = true) : hasT g ρ t v := by
  unfold hasTb at h
  split at h
  · rename_i x
    rw [Bool.or_eq_true] at h
    rcases h with h | h
    · obtain ⟨h1, h2⟩ := mand h
      obtain ⟨h2, h3⟩ := mand h2
      unfold hasT
      rw [mlen h1]
      exact ⟨x, rfl, of_decide_eq_true h2, of_decide_eq_true h3⟩
    · obtain ⟨h1, h2⟩ := mand h
      unfold hasT
      rw [mlen h1]
      exact ⟨x, rfl, of_decide_eq_true h2⟩
  · rename_i k
    obtain ⟨h1, h2⟩ := mand h
    have h2 := of_decide_eq_true h2
    rw [Bool.or_eq_true] at h1
    unfold hasT
    rcases h1 with h1 | h1
    · rw [mlen h1]
      exact ⟨k, rfl, h2⟩
    · rw [mlen h1]
      exact Or.inr ⟨k, rfl, h2⟩
  · unfold hasT
    rw [mlen h]
    exact Or.inl rfl
  · cases h
def aNulb (g : Nat → Int) (mode j : Nat) : Bool := match mode with
  | 0 => true
  | 1 => false
  | p + 2 => decide (g p ≤ j)
def okCb (g : Nat → Int) (ρ : List Nat) (R : aR) (c : mC) : Bool := match R, c with
  | .inl (ci, fts), .inr (cj, fs) => Nat.beq ci cj && (Nat.beq fs.length fts.length && (fts.zip fs).all (fun q => hasTb g ρ q.1 q.2))
  | .inr (.inl (t, n, lo, hi)), .inl (t', .inl xs) => Nat.beq t t' && (Nat.beq xs.length n && xs.all (fun x => decide (lo ≤ x.toInt) && decide (x.toInt ≤ hi)))
  | .inr (.inr (t, n, r, mode)), .inl (t', .inr qs) => Nat.beq t t' && (Nat.beq qs.length n && (List.range qs.length).all (fun j => match qs[j]? with
    | some none => aNulb g mode j
    | some (some k) => decide (ρ[k]? = some r)
    | none => true))
  | _, _ => false
theorem okCb_ok {g : Nat → Int} {ρ : List Nat} {R : aR} {c : mC} (h : okCb g ρ R c = true) : okC g ρ R c := by
  unfold okCb at h
  split at h
  · rename_i ci fts cj fs
    obtain ⟨h1, h2⟩ := mand h
    obtain ⟨h2, h3⟩ := mand h2
    have h1 := mlen h1
    subst h1
    refine ⟨fs, rfl, mlen h2, fun j t v a1 a2 => ?_⟩
    have hz : (fts.zip fs)[j]? = some (t, v) := by rw [List.getElem?_zip_eq_some]; exact ⟨a1, a2⟩
    exact hasTb_ok (List.all_eq_true.mp h3 _ (List.mem_of_getElem? hz))
  · rename_i t n lo hi t' xs
    obtain ⟨h1, h2⟩ := mand h
    obtain ⟨h2, h3⟩ := mand h2
    have h1 := mlen h1
    subst h1
    refine ⟨xs, rfl, mlen h2, fun z hz => ?_⟩
    obtain ⟨h4, h5⟩ := mand (List.all_eq_true.mp h3 z hz)
    exact ⟨of_decide_eq_true h4, of_decide_eq_true h5⟩
  · rename_i t n r mode t' qs
    obtain ⟨h1, h2⟩ := mand h
    obtain ⟨h2, h3⟩ := mand h2
    have h1 := mlen h1
    subst h1
    refine ⟨qs, rfl, mlen h2, fun j q hj => ?_⟩
    have h4 := List.all_eq_true.mp h3 j (List.mem_range.mpr (List.getElem?_eq_some_iff.mp hj).1)
    rw [hj] at h4
    cases q with
    | some k => exact Or.inr ⟨k, rfl, of_decide_eq_true h4⟩
    | none =>
      refine Or.inl ⟨rfl, ?_⟩
      have h4 : aNulb g mode j = true := h4
      unfold aNulb at h4
      unfold aNul
      split at h4
      · trivial
      · cases h4
      · exact of_decide_eq_true h4
  · cases h
def okHb (g : Nat → Int) (ρ : List Nat) (h : List mC) : Bool := Nat.beq ρ.length h.length && ((List.range ρ.length).all (fun k => match ρ[k]?, h[k]? with
    | some r, some c => (match rI0 r with | some R => okCb g ρ R c | none => false)
    | _, _ => false) && (List.range ρ.length).all (fun k => (List.range ρ.length).all (fun k' => Nat.beq k k' || (match ρ[k]?, ρ[k']? with
    | some r, some r' => Nat.beq (grp r) 0 || !Nat.beq (grp r) (grp r')
    | _, _ => true))))
theorem okHb_ok {g : Nat → Int} {ρ : List Nat} {h : List mC} (hb : okHb g ρ h = true) : okH rI0 g ρ h := by
  obtain ⟨h1, h2⟩ := mand hb
  obtain ⟨h2, h3⟩ := mand h2
  refine ⟨mlen h1, fun k r c a1 a2 => ?_, fun k k' r r' a1 a2 a3 a4 => ?_⟩
  · have := List.all_eq_true.mp h2 k (List.mem_range.mpr (List.getElem?_eq_some_iff.mp a1).1)
    rw [a1, a2] at this
    dsimp only at this
    split at this
    · rename_i R hR
      exact ⟨R, hR, okCb_ok this⟩
    · cases this
  · have := List.all_eq_true.mp (List.all_eq_true.mp h3 k (List.mem_range.mpr (List.getElem?_eq_some_iff.mp a1).1)) k' (List.mem_range.mpr (List.getElem?_eq_some_iff.mp a2).1)
    rw [a1, a2] at this
    dsimp only at this
    rw [Bool.or_eq_true] at this
    rcases this with h | h
    · exact mlen h
    · exfalso
      rw [Bool.or_eq_true] at h
      rcases h with h | h
      · exact a4 (mlen h)
      · rw [a3, Nat.beq_refl] at h
        cases h
def g00 : Nat → Int := fun p => bif Nat.beq p 3 || Nat.beq p 13 then 3 else 0
set_option maxRecDepth 100000 in
theorem okH_00 : okHb g00 ρ00 mh0.1 = true := by decide +kernel
theorem okG_00 : okG aBl g00 := by
  intro p q hq
  have hl : p < aBl.length := (List.getElem?_eq_some_iff.mp hq).1
  have hl : p < 14 := hl
  have key : (List.range 14).all (fun p => match aBl[p]? with | some q => decide (q.1 ≤ g00 p) && decide (g00 p ≤ q.2) | none => true) = true := by decide +kernel
  have := List.all_eq_true.mp key p (List.mem_range.mpr hl)
  rw [hq] at this
  obtain ⟨h1, h2⟩ := mand this
  exact ⟨of_decide_eq_true h1, of_decide_eq_true h2⟩
theorem Inv_00 : Inv 0 g00 ρ00 mh0 := ⟨okHb_ok okH_00, rfl, rfl, okG_00, ⟨by decide, by decide⟩, ⟨rfl, rfl⟩, rfl, rfl, rfl, rfl, rfl⟩
theorem msteps_cal {cal cal' : Nat → List Value → mS → Option (Option Value × mS)} (hc : ∀ y as h q, cal y as h = some q → cal' y as h = some q) {scr : Option (Nat × (Nat → Int32))} {nL : Nat} {tab : Nat → Option mI} : ∀ (k : Nat) (s s' : mX), msteps cal scr nL tab k s = some s' → msteps cal' scr nL tab k s = some s' := by
  intro k
  induction k with
  | zero => intro s s' h; exact h
  | succ k ih =>
    intro s s' h
    obtain ⟨pc, lv, st, hp⟩ := s
    unfold msteps at h ⊢
    split at h
    · cases h
    · rename_i x hx
      split at h
      · cases h
      · exact ih _ _ h
      · cases h
      · split at h
        · cases h
        · rename_i hcal
          simp only [hc _ _ _ _ hcal]
          exact ih _ _ h
