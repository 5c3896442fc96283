/-! THE TYPED HEAP: g the parameters (0 houses, 1 strips, 2 the week, 3 apart), ρ the roles of the cells -/
abbrev aV : Type := Nat × Int × Int
def hasT (g : Nat → Int) (ρ : List Nat) (t : aV) (v : Value) : Prop := match t.1 with
  | 0 => ∃ x : Int32, v = .int x ∧ t.2.1 ≤ x.toInt ∧ x.toInt ≤ t.2.2
  | 1 => ∃ x : Int32, v = .int x ∧ x.toInt = g t.2.1.toNat
  | 2 => ∃ x : Int32, v = .int x ∧ 0 ≤ x.toInt ∧ x.toInt < g t.2.1.toNat
  | 3 => ∃ k : Nat, v = .ref k ∧ ρ[k]? = some t.2.1.toNat
  | 4 => v = .null ∨ ∃ k : Nat, v = .ref k ∧ ρ[k]? = some t.2.1.toNat
  | 5 => v = .null
  | 8 => v = .int 0 ∨ v = .int 1
  | 9 => v = .int 0 ∨ v = .int 1
  | _ => v = .retAddr t.2.1.toNat
/-- the parameters' bounds -/
def apb : List (Int × Int) := [(0, 12), (0, 60), (0, 2000), (0, 60)]
def okG (g : Nat → Int) : Prop := ∀ (p : Nat) (q : Int × Int), apb[p]? = some q → q.1 ≤ g p ∧ g p ≤ q.2
def asub (s t : aV) : Bool := decide (s = t) || (match s.1, t.1 with
  | 0, 0 => decide (t.2.1 ≤ s.2.1) && decide (s.2.2 ≤ t.2.2)
  | 1, 0 => (match apb[s.2.1.toNat]? with | some q => decide (t.2.1 ≤ q.1) && decide (q.2 ≤ t.2.2) | none => false)
  | 2, 0 => (match apb[s.2.1.toNat]? with | some q => decide (t.2.1 ≤ 0) && decide (q.2 - 1 ≤ t.2.2) | none => false)
  | 3, 4 => decide (s.2.1.toNat = t.2.1.toNat)
  | 5, 4 => true
  | 8, 0 => decide (t.2.1 ≤ 0) && decide (1 ≤ t.2.2)
  | 9, 0 => decide (t.2.1 ≤ 0) && decide (1 ≤ t.2.2)
  | _, _ => false)
theorem asub_ok {g : Nat → Int} {ρ : List Nat} {s t : aV} {v : Value} (hg : okG g) (h : asub s t = true) (hv : hasT g ρ s v) : hasT g ρ t v := by
  unfold asub at h
  rw [Bool.or_eq_true] at h
  rcases h with h | h
  · rw [← of_decide_eq_true h]; exact hv
  · obtain ⟨s1, sa, sb⟩ := s
    obtain ⟨t1, ta, tb⟩ := t
    dsimp only at h
    split at h
    · obtain ⟨h1, h2⟩ := mand h
      obtain ⟨x, rfl, h3, h4⟩ := hv
      have h1 : ta ≤ sa := of_decide_eq_true h1
      have h2 : sb ≤ tb := of_decide_eq_true h2
      exact ⟨x, rfl, Int.le_trans h1 h3, Int.le_trans h4 h2⟩
    · split at h
      · rename_i q hq
        obtain ⟨h1, h2⟩ := mand h
        obtain ⟨x, rfl, h3⟩ := hv
        have h1 : ta ≤ q.1 := of_decide_eq_true h1
        have h2 : q.2 ≤ tb := of_decide_eq_true h2
        have h5 := hg _ _ hq
        have h3 : x.toInt = g sa.toNat := h3
        refine ⟨x, rfl, ?_, ?_⟩
        · show ta ≤ x.toInt; omega
        · show x.toInt ≤ tb; omega
      · cases h
    · split at h
      · rename_i q hq
        obtain ⟨h1, h2⟩ := mand h
        obtain ⟨x, rfl, h3, h4⟩ := hv
        have h1 : ta ≤ 0 := of_decide_eq_true h1
        have h2 : q.2 - 1 ≤ tb := of_decide_eq_true h2
        have h5 := hg _ _ hq
        have h4 : x.toInt < g sa.toNat := h4
        refine ⟨x, rfl, ?_, ?_⟩
        · show ta ≤ x.toInt; omega
        · show x.toInt ≤ tb; omega
      · cases h
    · obtain ⟨k, rfl, h3⟩ := hv
      have h : sa.toNat = ta.toNat := of_decide_eq_true h
      exact Or.inr ⟨k, rfl, by show ρ[k]? = some ta.toNat; rw [← h]; exact h3⟩
    · exact Or.inl hv
    · obtain ⟨h1, h2⟩ := mand h
      have h1 : ta ≤ 0 := of_decide_eq_true h1
      have h2 : 1 ≤ tb := of_decide_eq_true h2
      have e0 : (0 : Int32).toInt = 0 := by decide
      have e1 : (1 : Int32).toInt = 1 := by decide
      rcases hv with rfl | rfl
      · exact ⟨0, rfl, by show ta ≤ (0 : Int32).toInt; omega, by show (0 : Int32).toInt ≤ tb; omega⟩
      · exact ⟨1, rfl, by show ta ≤ (1 : Int32).toInt; omega, by show (1 : Int32).toInt ≤ tb; omega⟩
    · obtain ⟨h1, h2⟩ := mand h
      have h1 : ta ≤ 0 := of_decide_eq_true h1
      have h2 : 1 ≤ tb := of_decide_eq_true h2
      have e0 : (0 : Int32).toInt = 0 := by decide
      have e1 : (1 : Int32).toInt = 1 := by decide
      rcases hv with rfl | rfl
      · exact ⟨0, rfl, by show ta ≤ (0 : Int32).toInt; omega, by show (0 : Int32).toInt ≤ tb; omega⟩
      · exact ⟨1, rfl, by show ta ≤ (1 : Int32).toInt; omega, by show (1 : Int32).toInt ≤ tb; omega⟩
    · cases h
/-- a role: an object (its class, its fields' types), an array of ints (tag, length, least, most, is it the RAINs), an array of references (tag, length, role, 0: null too, 1: never null, 2 + p: not null below parameter p) -/
abbrev aR : Type := (Nat × List aV) ⊕ ((Nat × Nat × Int × Int × Bool) ⊕ (Nat × Nat × Nat × Nat))
def aNul (g : Nat → Int) (mode j : Nat) : Prop := match mode with
  | 0 => True
  | 1 => False
  | p + 2 => g p ≤ j
def okC (g : Nat → Int) (rl : List Int32) (ρ : List Nat) (r : aR) (c : mC) : Prop := match r with
  | .inl (ci, fts) => ∃ fs : List Value, c = .inr (ci, fs) ∧ fs.length = fts.length ∧ ∀ (j : Nat) (t : aV) (v : Value), fts[j]? = some t → fs[j]? = some v → hasT g ρ t v
  | .inr (.inl (t, n, lo, hi, fz)) => ∃ xs : List Int32, c = .inl (t, .inl xs) ∧ xs.length = n ∧ (∀ x ∈ xs, lo ≤ x.toInt ∧ x.toInt ≤ hi) ∧ (fz = true → xs = rl)
  | .inr (.inr (t, n, r, mode)) => ∃ qs : List (Option Nat), c = .inl (t, .inr qs) ∧ qs.length = n ∧ ∀ (j : Nat) (q : Option Nat), qs[j]? = some q → (q = none ∧ aNul g mode j) ∨ ∃ k : Nat, q = some k ∧ ρ[k]? = some r
def okH (rI : Nat → Option aR) (g : Nat → Int) (rl : List Int32) (ρ : List Nat) (h : List mC) : Prop := ρ.length = h.length ∧ ∀ (k r : Nat) (c : mC), ρ[k]? = some r → h[k]? = some c → ∃ R, rI r = some R ∧ okC g rl ρ R c
section TH
variable {rI : Nat → Option aR} {g : Nat → Int} {rl : List Int32} {ρ : List Nat} {h : List mC}
theorem okH.at {k r : Nat} {R : aR} (hh : okH rI g rl ρ h) (hk : ρ[k]? = some r) (hr : rI r = some R) : ∃ c, h[k]? = some c ∧ okC g rl ρ R c := by
  have hl : k < h.length := by rw [← hh.1]; exact (List.getElem?_eq_some_iff.mp hk).1
  have hc : h[k]? = some (h[k]'hl) := List.getElem?_eq_getElem hl
  obtain ⟨R', h1, h2⟩ := hh.2 k r _ hk hc
  rw [hr] at h1
  cases h1
  exact ⟨_, hc, h2⟩
theorem okH.set {k r : Nat} {R : aR} {c : mC} (hh : okH rI g rl ρ h) (hk : ρ[k]? = some r) (hr : rI r = some R) (hc : okC g rl ρ R c) : okH rI g rl ρ (h.set k c) := by
  refine ⟨by rw [List.length_set]; exact hh.1, fun k2 r2 c2 h1 h2 => ?_⟩
  by_cases he : k = k2
  · subst he
    have hl : k < h.length := by rw [← hh.1]; exact (List.getElem?_eq_some_iff.mp hk).1
    rw [List.getElem?_set_self hl] at h2
    cases h2
    rw [hk] at h1
    cases h1
    exact ⟨R, hr, hc⟩
  · rw [List.getElem?_set_ne he] at h2
    exact hh.2 k2 r2 c2 h1 h2
theorem okH.get {k r ci : Nat} {fts : List aV} {j : Nat} {t : aV} (hh : okH rI g rl ρ h) (hk : ρ[k]? = some r) (hr : rI r = some (.inl (ci, fts))) (hj : fts[j]? = some t) : ∃ (fs : List Value) (v : Value), h[k]? = some (.inr (ci, fs)) ∧ fs[j]? = some v ∧ fs.length = fts.length ∧ hasT g ρ t v := by
  obtain ⟨c, h1, fs, rfl, h2, h3⟩ := hh.at hk hr
  have hl : j < fs.length := by rw [h2]; exact (List.getElem?_eq_some_iff.mp hj).1
  have hv : fs[j]? = some (fs[j]'hl) := List.getElem?_eq_getElem hl
  exact ⟨fs, _, h1, hv, h2, h3 j t _ hj hv⟩
theorem okH.put {k r ci : Nat} {fts : List aV} {j : Nat} {t : aV} {fs : List Value} {v : Value} (hh : okH rI g rl ρ h) (hk : ρ[k]? = some r) (hr : rI r = some (.inl (ci, fts))) (hj : fts[j]? = some t) (hc : h[k]? = some (.inr (ci, fs))) (hv : hasT g ρ t v) : okH rI g rl ρ (h.set k (.inr (ci, fs.set j v))) := by
  obtain ⟨c, h1, fs', rfl, h2, h3⟩ := hh.at hk hr
  rw [hc] at h1
  cases h1
  refine hh.set hk hr ⟨_, rfl, by rw [List.length_set]; exact h2, fun i t' v' hi hv' => ?_⟩
  by_cases he : j = i
  · subst he
    have hl : j < fs.length := by rw [h2]; exact (List.getElem?_eq_some_iff.mp hj).1
    rw [List.getElem?_set_self hl] at hv'
    cases hv'
    rw [hj] at hi
    cases hi
    exact hv
  · rw [List.getElem?_set_ne he] at hv'
    exact h3 i t' v' hi hv'
end TH
