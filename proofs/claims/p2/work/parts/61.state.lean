/-! THE TYPED FRAME: types of locals, of the stack (with where a value comes from: 0 nowhere, l + 1: it is local l's, 1000 + k: it is field k of this, 2000 + l: a boolean of tag 8 or 9 that tells of local l), of fields of this that tests have told of -/
abbrev aE : Type := aV × Nat
abbrev aS : Type := List (Nat × aV) × List aE × List (Nat × aV)
/-- a value of a stack entry: its type, and its place if it has one -/
def hasE (g : Nat → Int) (ρ : List Nat) (lv : mL) (h : List mC) (e : aE) (v : Value) : Prop := hasT g ρ e.1 v ∧ (0 < e.2 → e.2 < 1000 → mget lv (e.2 - 1) = some v) ∧ (1000 ≤ e.2 → e.2 < 2000 → ∃ (k ci : Nat) (fs : List Value), mget lv 0 = some (.ref k) ∧ h[k]? = some (.inr (ci, fs)) ∧ fs[e.2 - 1000]? = some v) ∧
  (2000 ≤ e.2 → v = .int 0 ∨ ∃ x : Int32, mget lv (e.2 - 2000) = some (.int x) ∧ (e.1.1 = 8 → 0 ≤ x.toInt ∧ x.toInt < g e.1.2.1.toNat) ∧ (e.1.1 = 9 → e.1.2.1 ≤ x.toInt ∧ x.toInt ≤ e.1.2.2))
def okL (g : Nat → Int) (ρ : List Nat) (ts : List (Nat × aV)) (lv : mL) : Prop := ∀ q ∈ ts, ∃ v, mget lv q.1 = some v ∧ hasT g ρ q.2 v
def okF (g : Nat → Int) (ρ : List Nat) (ts : List (Nat × aV)) (lv : mL) (h : List mC) : Prop := ∀ q ∈ ts, ∃ (k ci : Nat) (fs : List Value) (v : Value), mget lv 0 = some (.ref k) ∧ h[k]? = some (.inr (ci, fs)) ∧ fs[q.1]? = some v ∧ hasT g ρ q.2 v
def okStk (g : Nat → Int) (ρ : List Nat) (lv : mL) (h : List mC) : List aE → List Value → Prop
  | [], [] => True
  | e :: es, v :: vs => hasE g ρ lv h e v ∧ okStk g ρ lv h es vs
  | _, _ => False
def okS (rI : Nat → Option aR) (g : Nat → Int) (rl : List Int32) (ρ : List Nat) (S : aS) (lv : mL) (st : List Value) (h : mS) : Prop := okH rI g rl ρ h.1 ∧ okL g ρ S.1 lv ∧ okStk g ρ lv h.1 S.2.1 st ∧ okF g ρ S.2.2 lv h.1
theorem find_congr {α : Type} {p q : α → Bool} : ∀ (l : List α), (∀ x ∈ l, p x = q x) → l.find? p = l.find? q
  | [], _ => rfl
  | a :: l, h => by
    have h1 := h a List.mem_cons_self
    have h2 := find_congr l (fun x hx => h x (List.mem_cons_of_mem _ hx))
    rw [List.find?_cons, List.find?_cons, h1, h2]
theorem mget_put (lv : mL) (i j : Nat) (v : Value) (hj : j ≠ i) (hcat : ∀ q ∈ lv, q.2.category ≠ 2) : mget (mput lv i v) j = mget lv j := by
  unfold mget mput
  rw [List.find?_cons_of_neg (by
    show ¬ Nat.beq i j = true
    intro h
    exact hj (Nat.eq_of_beq_eq_true h).symm)]
  congr 1
  rw [List.find?_filter]
  apply find_congr
  intro q hq
  by_cases hqj : Nat.beq q.1 j = true
  · have he := Nat.eq_of_beq_eq_true hqj
    have h2 : (q.1 == i) = false := by rw [he]; simpa using hj
    have h3 : (q.2.category == 2) = false := by simpa using hcat q hq
    simp [hqj, h2, h3]
  · have hqj : Nat.beq q.1 j = false := by
      cases hb : Nat.beq q.1 j with
      | true => exact absurd hb hqj
      | false => rfl
    rw [hqj]
    simp
theorem mget_put_self (lv : mL) (i : Nat) (v : Value) : mget (mput lv i v) i = some v := by
  unfold mget mput
  rw [List.find?_cons_of_pos (by show Nat.beq i i = true; exact Nat.beq_refl i)]
  rfl
