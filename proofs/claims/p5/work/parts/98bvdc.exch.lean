/-! the class's exchange leaves the number of strips of every house -/
theorem lva_get {as : List Value} (ha : as.all mone = true) : mget (lv_args 0 as) 0 = as[0]? ∧ mget (lv_args 0 as) 1 = as[1]? := by
  match as, ha with
  | [], _ => exact ⟨rfl, rfl⟩
  | [v0], ha =>
    refine ⟨rfl, ?_⟩
    have h0 : mone v0 = true := (Bool.and_eq_true_iff.mp (by rw [List.all_cons] at ha; exact ha)).1
    cases v0 <;> first | rfl | cases h0
  | v0 :: v1 :: t, ha =>
    refine ⟨rfl, ?_⟩
    have h0 : mone v0 = true := (Bool.and_eq_true_iff.mp (by rw [List.all_cons] at ha; exact ha)).1
    cases v0 <;> first | rfl | cases h0
theorem find_fil {α : Type} {p q : α → Bool} : ∀ {l : List α}, (∀ a, l.find? p = some a → q a = true) → (l.filter q).find? p = l.find? p := by
  intro l
  induction l with
  | nil => intro _; rfl
  | cons a l ih =>
    intro h
    cases hp : p a with
    | true =>
      have hq := h a (by rw [List.find?_cons, hp])
      rw [List.filter_cons, if_pos hq, List.find?_cons, List.find?_cons, hp]
    | false =>
      have h' : ∀ b, l.find? p = some b → q b = true := fun b hb => h b (by rw [List.find?_cons, hp]; exact hb)
      rw [List.filter_cons]
      split
      · rw [List.find?_cons, List.find?_cons, hp]
        exact ih h'
      · rw [List.find?_cons, hp]
        exact ih h'
theorem mget_putN {lv : mL} {i j : Nat} {v : Value} (hij : j ≠ i) (hm : ∀ w, mget lv j = some w → mone w = true) : mget (mput lv i v) j = mget lv j := by
  unfold mget mput
  rw [List.find?_cons]
  have : Nat.beq i j = false := by
    cases hb : Nat.beq i j with
    | true => exact absurd (Nat.eq_of_beq_eq_true hb).symm hij
    | false => rfl
  dsimp only
  rw [this]
  dsimp only
  rw [find_fil (fun a ha => ?_)]
  have h1 : Nat.beq a.1 j = true := by
    have := List.find?_some ha
    exact this
  have h1 := Nat.eq_of_beq_eq_true h1
  have h2 := hm a.2 (by unfold mget; rw [ha]; rfl)
  have h3 : (a.2.category == 2) = false := by
    revert h2
    cases a.2 <;> intro h2 <;> first | rfl | cases h2
  rw [h3]
  have h4 : (a.1 == i) = false := by
    rw [h1]
    exact beq_false_of_ne hij
  rw [h4]
  simp
theorem mget_self {lv : mL} {i : Nat} {v : Value} : mget (mput lv i v) i = some v := by
  unfold mget mput
  rw [List.find?_cons]
  dsimp only
  rw [Nat.beq_refl]
  rfl
def iv (d : Int32) : Option Value → Option Value
  | some (.int x) => some (.int (x + d))
  | o => o
theorem iv_iv (a b : Int32) (o : Option Value) : iv a (iv b o) = iv (b + a) o := by
  unfold iv
  match o with
  | none => rfl
  | some (.int x) => show some (Value.int (x + b + a)) = _; rw [Int32.add_assoc]
  | some (.ref _) => rfl
  | some .null => rfl
  | some (.retAddr _) => rfl
  | some (.long _) => rfl
  | some (.float _) => rfl
  | some (.double _) => rfl
theorem iv_0 (o : Option Value) : iv 0 o = o := by
  unfold iv
  match o with
  | some (.int x) => show some (Value.int (x + 0)) = _; rw [Int32.add_zero]
  | none => rfl
  | some (.ref _) => rfl
  | some .null => rfl
  | some (.retAddr _) => rfl
  | some (.long _) => rfl
  | some (.float _) => rfl
  | some (.double _) => rfl
/-- field 7 of a house -/
def A7 (h : List mC) (c : Nat) : Option Value := match h[c]? with
  | some (.inr (4, fs)) => fs[7]?
  | _ => none
def up7 (f : Nat → Option Value) (k : Nat) (d : Int32) : Nat → Option Value := fun c => if c = k then iv d (f k) else f c
theorem up7_4 (f : Nat → Option Value) (a b : Nat) : up7 (up7 (up7 (up7 f a (-1)) b 1) b (-1)) a 1 = f := by
  funext c
  unfold up7
  have e1 : (-1 : Int32) + 1 = 0 := by decide
  have e2 : (1 : Int32) + -1 = 0 := by decide
  by_cases hc : c = a
  · subst hc
    by_cases hb : c = b
    · subst hb
      simp only [if_true]
      rw [iv_iv, iv_iv, iv_iv]
      show iv (-1 + (1 + (-1 + 1))) (f c) = f c
      rw [show (-1 : Int32) + (1 + (-1 + 1)) = 0 by decide, iv_0]
    · simp only [if_true, if_neg hb, if_neg (Ne.symm hb)]
      rw [iv_iv, e1, iv_0]
  · simp only [if_neg hc]
    by_cases hb : c = b
    · subst hb
      simp only [if_true, if_neg hc]
      rw [iv_iv, e2, iv_0]
    · simp only [if_neg hb]
