/-! THE TYPED HEAP: types of values. g the parameters, B their bounds, ρ the roles of the cells.
0 (a, b): an int in [a, b]; 1 (p, c): g p + c; 2 (p, c): in [0, g p + c]; 3 r: a reference of role r; 4 r: or null; 5 null; 6 n: retAddr n -/
abbrev aV : Type := Nat × Int × Int
abbrev aB : Type := List (Int × Int)
def hasT (g : Nat → Int) (ρ : List Nat) (t : aV) (v : Value) : Prop := match t.1 with
  | 0 => ∃ x : Int32, v = .int x ∧ t.2.1 ≤ x.toInt ∧ x.toInt ≤ t.2.2
  | 1 => ∃ x : Int32, v = .int x ∧ x.toInt = g t.2.1.toNat + t.2.2
  | 2 => ∃ x : Int32, v = .int x ∧ 0 ≤ x.toInt ∧ x.toInt ≤ g t.2.1.toNat + t.2.2
  | 3 => ∃ k : Nat, v = .ref k ∧ ρ[k]? = some t.2.1.toNat
  | 4 => v = .null ∨ ∃ k : Nat, v = .ref k ∧ ρ[k]? = some t.2.1.toNat
  | 5 => v = .null
  | 6 => v = .retAddr t.2.1.toNat
  | _ => False
def okG (B : aB) (g : Nat → Int) : Prop := ∀ (p : Nat) (q : Int × Int), B[p]? = some q → q.1 ≤ g p ∧ g p ≤ q.2
/-- the interval of a type of ints -/
def arng (B : aB) (s : aV) : Option (Int × Int) := match s.1 with
  | 0 => some (s.2.1, s.2.2)
  | 1 => (match B[s.2.1.toNat]? with | some q => some (q.1 + s.2.2, q.2 + s.2.2) | none => none)
  | 2 => (match B[s.2.1.toNat]? with | some q => some (0, q.2 + s.2.2) | none => none)
  | _ => none
theorem arng_ok {B : aB} {g : Nat → Int} {ρ : List Nat} {s : aV} {v : Value} {q : Int × Int} (hg : okG B g) (h : arng B s = some q) (hv : hasT g ρ s v) : ∃ x : Int32, v = .int x ∧ q.1 ≤ x.toInt ∧ x.toInt ≤ q.2 := by
  obtain ⟨s1, sa, sb⟩ := s
  unfold arng at h
  dsimp only at h
  split at h
  · cases h
    obtain ⟨x, rfl, h3, h4⟩ := hv
    exact ⟨x, rfl, h3, h4⟩
  · split at h
    · rename_i q2 hq
      cases h
      obtain ⟨x, rfl, h3⟩ := hv
      have h5 := hg _ _ hq
      have h3 : x.toInt = g sa.toNat + sb := h3
      exact ⟨x, rfl, by show q2.1 + sb ≤ _; omega, by show _ ≤ q2.2 + sb; omega⟩
    · cases h
  · split at h
    · rename_i q2 hq
      cases h
      obtain ⟨x, rfl, h3, h4⟩ := hv
      have h5 := hg _ _ hq
      have h4 : x.toInt ≤ g sa.toNat + sb := h4
      exact ⟨x, rfl, h3, by show _ ≤ q2.2 + sb; omega⟩
    · cases h
  · cases h
def asub (B : aB) (s t : aV) : Bool := decide (s = t) || (match t.1 with
  | 0 => (match arng B s with | some q => decide (t.2.1 ≤ q.1) && decide (q.2 ≤ t.2.2) | none => false)
  | 2 => (match s.1 with
    | 1 => decide (s.2.1.toNat = t.2.1.toNat) && (decide (s.2.2 ≤ t.2.2) && (match arng B s with | some q => decide (0 ≤ q.1) | none => false))
    | 2 => decide (s.2.1.toNat = t.2.1.toNat) && decide (s.2.2 ≤ t.2.2)
    | _ => false)
  | 4 => Nat.beq s.1 5 || (Nat.beq s.1 3 && decide (s.2.1.toNat = t.2.1.toNat))
  | _ => false)
theorem asub_ok {B : aB} {g : Nat → Int} {ρ : List Nat} {s t : aV} {v : Value} (hg : okG B g) (h : asub B s t = true) (hv : hasT g ρ s v) : hasT g ρ t v := by
  unfold asub at h
  rw [Bool.or_eq_true] at h
  rcases h with h | h
  · rw [← of_decide_eq_true h]; exact hv
  · obtain ⟨t1, ta, tb⟩ := t
    dsimp only at h
    split at h
    · split at h
      · rename_i q hq
        obtain ⟨h1, h2⟩ := mand h
        obtain ⟨x, rfl, h3, h4⟩ := arng_ok hg hq hv
        exact ⟨x, rfl, Int.le_trans (of_decide_eq_true h1) h3, Int.le_trans h4 (of_decide_eq_true h2)⟩
      · cases h
    · split at h
      · rename_i hs1
        obtain ⟨h1, h2⟩ := mand h
        obtain ⟨h2, h3⟩ := mand h2
        have h1 : s.2.1.toNat = ta.toNat := of_decide_eq_true h1
        have h2 : s.2.2 ≤ tb := of_decide_eq_true h2
        split at h3
        · rename_i q hq
          obtain ⟨x, rfl, h4, h5⟩ := arng_ok hg hq hv
          have h6 : 0 ≤ q.1 := of_decide_eq_true h3
          unfold hasT at hv
          rw [hs1] at hv
          obtain ⟨y, hy, h7⟩ := hv
          cases hy
          refine ⟨x, rfl, by omega, ?_⟩
          show x.toInt ≤ g ta.toNat + tb
          rw [← h1]
          omega
        · cases h3
      · rename_i hs1
        obtain ⟨h1, h2⟩ := mand h
        have h1 : s.2.1.toNat = ta.toNat := of_decide_eq_true h1
        have h2 : s.2.2 ≤ tb := of_decide_eq_true h2
        unfold hasT at hv
        rw [hs1] at hv
        obtain ⟨x, rfl, h4, h5⟩ := hv
        refine ⟨x, rfl, h4, ?_⟩
        show x.toInt ≤ g ta.toNat + tb
        rw [← h1]
        omega
      · cases h
    · rw [Bool.or_eq_true] at h
      rcases h with h | h
      · have h := mlen h
        unfold hasT at hv
        rw [h] at hv
        exact Or.inl hv
      · obtain ⟨h1, h2⟩ := mand h
        have h1 := mlen h1
        have h2 : s.2.1.toNat = ta.toNat := of_decide_eq_true h2
        unfold hasT at hv
        rw [h1] at hv
        obtain ⟨k, rfl, h3⟩ := hv
        exact Or.inr ⟨k, rfl, by show ρ[k]? = some ta.toNat; rw [← h2]; exact h3⟩
    · cases h
theorem hasT_mone {g : Nat → Int} {ρ : List Nat} {t : aV} {v : Value} (h : hasT g ρ t v) : mone v = true := by
  unfold hasT at h
  split at h
  · obtain ⟨x, rfl, -⟩ := h; rfl
  · obtain ⟨x, rfl, -⟩ := h; rfl
  · obtain ⟨x, rfl, -⟩ := h; rfl
  · obtain ⟨x, rfl, -⟩ := h; rfl
  · rcases h with rfl | ⟨x, rfl, -⟩ <;> rfl
  · cases h; rfl
  · cases h; rfl
  · exact h.elim
/-- types of references (and retAddr) -/
def aref (t : aV) : Bool := Nat.ble 3 t.1 && Nat.ble t.1 6
theorem aref_ok {g : Nat → Int} {ρ : List Nat} {t : aV} {v : Value} (h : aref t = true) (hv : hasT g ρ t v) : misref v = true := by
  unfold aref at h
  obtain ⟨h1, h2⟩ := mand h
  have h1 := Nat.le_of_ble_eq_true h1
  have h2 := Nat.le_of_ble_eq_true h2
  unfold hasT at hv
  split at hv
  · rename_i e; rw [e] at h1; omega
  · rename_i e; rw [e] at h1; omega
  · rename_i e; rw [e] at h1; omega
  · obtain ⟨x, rfl, -⟩ := hv; rfl
  · rcases hv with rfl | ⟨x, rfl, -⟩ <;> rfl
  · cases hv; rfl
  · cases hv; rfl
  · exact hv.elim
def a32 : aV := (0, -2147483648, 2147483647)
theorem a32_ok {g : Nat → Int} {ρ : List Nat} (x : Int32) : hasT g ρ a32 (.int x) := ⟨x, rfl, Int32.le_toInt x, by
  have := Int32.toInt_lt x
  show x.toInt ≤ 2147483647
  omega⟩
def afits (lo hi : Int) : Bool := decide (-2147483648 ≤ lo) && decide (hi ≤ 2147483647)
theorem afits_ok {lo hi : Int} (h : afits lo hi = true) : -2147483648 ≤ lo ∧ hi ≤ 2147483647 := by
  obtain ⟨h1, h2⟩ := mand h
  exact ⟨of_decide_eq_true h1, of_decide_eq_true h2⟩
theorem bmod_id {a : Int} (h1 : -2147483648 ≤ a) (h2 : a ≤ 2147483647) : a.bmod (2 ^ 32) = a := by
  rw [Int.bmod_eq_of_le (by omega) (by omega)]
theorem add_id {x y : Int32} (h1 : -2147483648 ≤ x.toInt + y.toInt) (h2 : x.toInt + y.toInt ≤ 2147483647) : (x + y).toInt = x.toInt + y.toInt := by
  rw [Int32.toInt_add]; exact bmod_id h1 h2
theorem sub_id {x y : Int32} (h1 : -2147483648 ≤ x.toInt - y.toInt) (h2 : x.toInt - y.toInt ≤ 2147483647) : (x - y).toInt = x.toInt - y.toInt := by
  rw [Int32.toInt_sub]; exact bmod_id h1 h2
theorem mul_id {x y : Int32} (h1 : -2147483648 ≤ x.toInt * y.toInt) (h2 : x.toInt * y.toInt ≤ 2147483647) : (x * y).toInt = x.toInt * y.toInt := by
  rw [Int32.toInt_mul]; exact bmod_id h1 h2
def amin (a b : Int) : Int := if a ≤ b then a else b
def amax (a b : Int) : Int := if a ≤ b then b else a
theorem amin_le {a b : Int} : amin a b ≤ a ∧ amin a b ≤ b := by unfold amin; split <;> omega
theorem le_amax {a b : Int} : a ≤ amax a b ∧ b ≤ amax a b := by unfold amax; split <;> omega
/-- a product between its corners -/
theorem mul_lo {a b x c : Int} (h1 : a ≤ x) (h2 : x ≤ b) : amin (c * a) (c * b) ≤ c * x ∧ c * x ≤ amax (c * a) (c * b) := by
  have m := @amin_le (c * a) (c * b)
  have M := @le_amax (c * a) (c * b)
  rcases Int.le_total 0 c with h | h
  · have e1 := Int.mul_le_mul_of_nonneg_left h1 h
    have e2 := Int.mul_le_mul_of_nonneg_left h2 h
    omega
  · have e1 := Int.mul_le_mul_of_nonpos_left h h1
    have e2 := Int.mul_le_mul_of_nonpos_left h h2
    omega
