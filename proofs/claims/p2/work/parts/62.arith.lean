/-! intervals -/
def arng (s : aV) : Option (Int × Int) := match s.1 with
  | 0 => some (s.2.1, s.2.2)
  | 1 => apb[s.2.1.toNat]?
  | 2 => (match apb[s.2.1.toNat]? with | some q => some (0, q.2 - 1) | none => none)
  | 8 => some (0, 1)
  | 9 => some (0, 1)
  | _ => none
theorem arng_ok {g : Nat → Int} {ρ : List Nat} {s : aV} {v : Value} {q : Int × Int} (hg : okG g) (h : arng s = some q) (hv : hasT g ρ s v) : ∃ x : Int32, v = .int x ∧ q.1 ≤ x.toInt ∧ x.toInt ≤ q.2 := by
  obtain ⟨s1, sa, sb⟩ := s
  unfold arng at h
  dsimp only at h
  split at h
  · cases h
    obtain ⟨x, rfl, h3, h4⟩ := hv
    exact ⟨x, rfl, h3, h4⟩
  · obtain ⟨x, rfl, h3⟩ := hv
    have h5 := hg _ _ h
    have h3 : x.toInt = g sa.toNat := h3
    exact ⟨x, rfl, by omega, by omega⟩
  · split at h
    · rename_i q2 hq
      cases h
      obtain ⟨x, rfl, h3, h4⟩ := hv
      have h5 := hg _ _ hq
      have h4 : x.toInt < g sa.toNat := h4
      exact ⟨x, rfl, h3, by show x.toInt ≤ q2.2 - 1; omega⟩
    · cases h
  · cases h
    rcases hv with rfl | rfl
    · exact ⟨0, rfl, by decide, by decide⟩
    · exact ⟨1, rfl, by decide, by decide⟩
  · cases h
    rcases hv with rfl | rfl
    · exact ⟨0, rfl, by decide, by decide⟩
    · exact ⟨1, rfl, by decide, by decide⟩
  · cases h
def a32 : aV := (0, -2147483648, 2147483647)
theorem a32_ok {g : Nat → Int} {ρ : List Nat} (x : Int32) : hasT g ρ a32 (.int x) := ⟨x, rfl, Int32.le_toInt x, by
  have := Int32.toInt_lt x
  show x.toInt ≤ 2147483647
  omega⟩
def aclip (lo hi : Int) : aV := if -2147483648 ≤ lo ∧ hi ≤ 2147483647 then (0, lo, hi) else a32
theorem bmod_id {a : Int} (h1 : -2147483648 ≤ a) (h2 : a ≤ 2147483647) : a.bmod (2 ^ 32) = a := by
  rw [Int.bmod_eq_of_le (by omega) (by omega)]
theorem aclip_add {g : Nat → Int} {ρ : List Nat} {x y : Int32} {a b c d : Int} (h1 : a ≤ x.toInt) (h2 : x.toInt ≤ b) (h3 : c ≤ y.toInt) (h4 : y.toInt ≤ d) : hasT g ρ (aclip (a + c) (b + d)) (.int (x + y)) := by
  unfold aclip
  split
  · rename_i h
    have e : (x + y).toInt = x.toInt + y.toInt := by rw [Int32.toInt_add]; exact bmod_id (by omega) (by omega)
    exact ⟨_, rfl, by show a + c ≤ (x + y).toInt; omega, by show (x + y).toInt ≤ b + d; omega⟩
  · exact a32_ok _
theorem aclip_sub {g : Nat → Int} {ρ : List Nat} {x y : Int32} {a b c d : Int} (h1 : a ≤ x.toInt) (h2 : x.toInt ≤ b) (h3 : c ≤ y.toInt) (h4 : y.toInt ≤ d) : hasT g ρ (aclip (a - d) (b - c)) (.int (x - y)) := by
  unfold aclip
  split
  · rename_i h
    have e : (x - y).toInt = x.toInt - y.toInt := by rw [Int32.toInt_sub]; exact bmod_id (by omega) (by omega)
    exact ⟨_, rfl, by show a - d ≤ (x - y).toInt; omega, by show (x - y).toInt ≤ b - c; omega⟩
  · exact a32_ok _
