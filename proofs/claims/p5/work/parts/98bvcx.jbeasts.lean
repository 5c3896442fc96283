/-! the call beasts answers the same, and keeps all -/
def fFB (ci j : Nat) : Bool := (Nat.beq ci 4 && (Nat.beq j 0 || Nat.beq j 7)) || (Nat.beq ci 10 && Nat.beq j 10) || (Nat.beq ci 11 && Nat.beq j 21)
set_option maxRecDepth 10000 in
theorem fS_B : fSet fFB (61 :: SH) = true := by decide +kernel
theorem C_at {g : Nat → Int} {ρ : List Nat} {h : List mC} (hH : okH rI0 g ρ h) (hρ : ρ.take 78 = ρ00) : ∃ (f0 : List Value) (H w : Int32) (nm vs : List Int32), h[0]? = some (.inr (10, f0)) ∧ (f0[0]? = some (.ref 1) ∧ f0[4]? = some (.ref 5) ∧ f0[7]? = some (.ref 13) ∧ f0[10]? = some (.int H) ∧ f0[12]? = some (.int w)) ∧ (H.toInt = g 0 ∧ w.toInt = g 2) ∧ (h[13]? = some (.inr (6, [.ref 14, .ref 15])) ∧ h[14]? = some (cAr nm) ∧ h[15]? = some (cAr vs)) ∧ nm.length = 10 ∧ vs.length = 60 := by
  obtain ⟨f0, a1, -, a3⟩ := fld hH (at_rho hρ (k := 0) (r := 0) (by decide) rfl) (show rI0 0 = some ro_0 from rfl)
  obtain ⟨v, b1, k1, rfl, b2⟩ := a3 0 (3, 1, 0) rfl
  obtain ⟨v, c1, k4, rfl, c2⟩ := a3 4 (3, 5, 0) rfl
  obtain ⟨v, d1, k7, rfl, d2⟩ := a3 7 (3, 13, 0) rfl
  obtain ⟨v, e1, H, rfl, e2⟩ := a3 10 (1, 0, 0) rfl
  obtain ⟨v, i1, w, rfl, i2⟩ := a3 12 (1, 2, 0) rfl
  have e2 : H.toInt = g 0 + 0 := e2
  have i2 : w.toInt = g 2 + 0 := i2
  have b3 : k1 = 1 := one_of hH (show ρ[k1]? = some 1 from b2) (at_rho hρ (k := 1) (by decide) rfl) (by decide)
  have c3 : k4 = 5 := one_of hH (show ρ[k4]? = some 5 from c2) (at_rho hρ (k := 5) (by decide) rfl) (by decide)
  have d3 : k7 = 13 := one_of hH (show ρ[k7]? = some 13 from d2) (at_rho hρ (k := 13) (by decide) rfl) (by decide)
  subst b3
  subst c3
  subst d3
  obtain ⟨f6, x1, x2, x3⟩ := fld hH (at_rho hρ (k := 13) (r := 13) (by decide) rfl) (show rI0 13 = some ro_13 from rfl)
  obtain ⟨v, y1, m1, rfl, y2⟩ := x3 0 (3, 14, 0) rfl
  obtain ⟨v, z1, m2, rfl, z2⟩ := x3 1 (3, 15, 0) rfl
  have y3 : m1 = 14 := one_of hH (show ρ[m1]? = some 14 from y2) (at_rho hρ (k := 14) (by decide) rfl) (by decide)
  have z3 : m2 = 15 := one_of hH (show ρ[m2]? = some 15 from z2) (at_rho hρ (k := 15) (by decide) rfl) (by decide)
  subst y3
  subst z3
  obtain ⟨c14, n1, nm, rfl, n2, -⟩ := hH.at (at_rho hρ (k := 14) (r := 14) (by decide) rfl) (R := .inr (.inl (0, 10, -2147483648, 2147483647))) rfl
  obtain ⟨c15, s1, vs, rfl, s2, -⟩ := hH.at (at_rho hρ (k := 15) (r := 15) (by decide) rfl) (R := .inr (.inl (0, 60, -2147483648, 2147483647))) rfl
  have hf6 : f6 = [.ref 14, .ref 15] := by
    match f6, x2 with
    | [p, q], _ =>
      cases y1
      cases z1
      rfl
  subst hf6
  exact ⟨f0, H, w, nm, vs, a1, ⟨b1, c1, d1, e1, i1⟩, ⟨by omega, by omega⟩, ⟨x1, n1, s1⟩, n2, s2⟩
