/-! what both sides hold alike; J speaks of cells at fixed places -/
def bothJ (J : List mC → Prop) (y1 y2 : Nat) (as : List Value) (C : Int32 → Int32 → Prop) : Prop := ∀ (i : Nat) (g : Nat → Int) (ρ : List Nat) (h : mS), i ≤ 511 → (Inv i g ρ h ∧ J h.1) → ∃ (v1 v2 : Int32) (h1 h2 : mS) (g' : Nat → Int) (ρ' : List Nat) (fs : List Value), mcall 720 y1 (.ref 0 :: as) h = some (some (.int v1), h1) ∧ h1.1[47]? = some (.inr (11, fs)) ∧ mcall 720 y2 (.ref 47 :: as) h1 = some (some (.int v2), h2) ∧ (Inv (i + 1) g' ρ' h2 ∧ J h2.1) ∧ C v1 v2
theorem bothJ_of {J : List mC → Prop} {md : List Nat} {y1 y2 : Nat} {as : List Value} {C : Int32 → Int32 → Prop} (hb : bothI md y1 y2 as C) (hJ : ∀ (i : Nat) (g : Nat → Int) (ρ : List Nat) (h h1 h2 : mS) (v1 v2 : Int32), Inv i g ρ h → (∀ k r : Nat, ρ00[k]? = some r → r ∉ md → h2.1[k]? = h.1[k]?) → (md.elem 53 = true ∨ RR ρ h.1 h2.1) → mcall 720 y1 (.ref 0 :: as) h = some (some (.int v1), h1) → mcall 720 y2 (.ref 47 :: as) h1 = some (some (.int v2), h2) → J h.1 → J h2.1) : bothJ J y1 y2 as C := by
  intro i g ρ h hi hI
  obtain ⟨v1, v2, h1, h2, g', ρ', fs, e1, e2, e3, e4, e5, e6, e7⟩ := hb i g ρ h hi hI.1
  obtain ⟨i1, i2, i3, i4, i5, i7, i9, i10, i11, i12, i13⟩ := id hI.1
  refine ⟨v1, v2, h1, h2, g', ρ', fs, e1, e2, e3, ⟨e4, hJ i g ρ h h1 h2 v1 v2 hI.1 (fun k r q1 q2 => e6 k r (at_rho i13 (Nat.lt_of_lt_of_le (List.getElem?_eq_some_iff.mp q1).1 (Nat.le_of_ble_eq_true rfl)) q1) q2) e7 e1 e3 hI.2⟩, e5⟩
/-- the rains of both -/
def JR (h : List mC) : Prop := h[4]? = h[48]?
theorem jr_of {md : List Nat} {y1 y2 : Nat} {as : List Value} {C : Int32 → Int32 → Prop} (hb : bothI md y1 y2 as C) (h1 : md.elem 4 = false) (h2 : md.elem 31 = false) : bothJ JR y1 y2 as C :=
  bothJ_of hb (fun i g ρ h ha hb v1 v2 hI hf _ _ _ hJ => by
    show hb.1[4]? = hb.1[48]?
    rw [hf 4 4 rfl (fun q => by rw [List.elem_eq_true_of_mem q] at h1; cases h1), hf 48 31 rfl (fun q => by rw [List.elem_eq_true_of_mem q] at h2; cases h2)]
    exact hJ)
def rOk (x y : Int32) : Prop := (0 ≤ x.toInt ∧ x.toInt ≤ 19) ∧ (0 ≤ y.toInt ∧ y.toInt ≤ 9)
def rnP (xs : List Int32) (x y : Int32) (a : Nat) (h : mS) (r : Option Value) (h' : mS) : Prop := (¬ rOk x y ∧ r = some (.int (-1)) ∧ h' = h) ∨ (rOk x y ∧ ∃ v, xs[x.toNatClampNeg]? = some v ∧ r = some (.int v) ∧ h' = (h.1.set a (.inl (0, .inl (xs.set x.toNatClampNeg y))), h.2))
set_option maxRecDepth 10000 in
theorem r_rain {d m a : Nat} {x y : Int32} {h : mS} {fs : List Value} {xs : List Int32} (c1 : h.1[m]? = some (.inr (10, fs))) (c2 : fs[3]? = some (.ref a)) (c3 : h.1[a]? = some (.inl (0, .inl xs))) (c4 : xs.length = 20) : mR (d + 2) 60 [.ref m, .int x, .int y] h (rnP xs x y a h) := by
  have e0 : (0 : Int32).toInt = 0 := by decide
  have e9 : (9 : Int32).toInt = 9 := by decide
  have e19 : (19 : Int32).toInt = 19 := by decide
  refine mR_ix [(0, .ref m), (1, .int x), (2, .int y)] rfl rfl rfl ?_
  refine mE_ildn 1 rfl rfl rfl rfl ?_
  refine mE_ico 2 0 rfl rfl rfl ?_
  refine mE_bip 4 19 rfl rfl rfl ?_
  refine mE_cs [.int x, .int 0, .int 19] [] rfl rfl rfl rfl rfl ?_
  obtain ⟨r, hh, k1, rfl, e9h⟩ := r_within d x 0 19 h
  subst e9h
  refine ⟨_, _, k1, ?_⟩
  refine mE_if_eq rfl (fun hx => ?_) (fun hx => ?_)
  · have hx := bit0_iff.mp hx
    rw [within_iff, e0, e19] at hx
    refine mE_ico 21 (-1) rfl rfl rfl ?_
    exact mE_iret rfl ⟨rfl, Or.inl ⟨fun q => hx q.1, rfl, rfl⟩⟩
  have hx := Classical.not_not.mp (fun q => hx (bit0_iff.mpr q))
  rw [within_iff, e0, e19] at hx
  refine mE_ildn 11 rfl rfl rfl rfl ?_
  refine mE_ico 12 0 rfl rfl rfl ?_
  refine mE_bip 14 9 rfl rfl rfl ?_
  refine mE_cs [.int y, .int 0, .int 9] [] rfl rfl rfl rfl rfl ?_
  obtain ⟨r, hh2, k2, rfl, e9h2⟩ := r_within d y 0 9 hh
  subst e9h2
  refine ⟨_, _, k2, ?_⟩
  refine mE_if_ne rfl (fun hy => ?_) (fun hy => ?_)
  rotate_left
  · have hy := bit0_iff.mp (Classical.not_not.mp hy)
    rw [within_iff, e0, e9] at hy
    refine mE_ico 21 (-1) rfl rfl rfl ?_
    exact mE_iret rfl ⟨rfl, Or.inl ⟨fun q => hy q.2, rfl, rfl⟩⟩
  have hy := Classical.not_not.mp (fun q => hy (bit0_iff.mpr q))
  rw [within_iff, e0, e9] at hy
  have xc : (x.toNatClampNeg : Int) = x.toInt := by
    show ((x.toInt.toNat : Nat) : Int) = x.toInt
    omega
  have xl : x.toNatClampNeg < xs.length := by rw [c4]; omega
  have xnn : ¬ x < 0 := fun q => by have := Int32.lt_iff_toInt_lt.mp q; omega
  have xv : xs[x.toNatClampNeg]? = some (xs[x.toNatClampNeg]'xl) := List.getElem?_eq_getElem xl
  refine mE_aldn 23 rfl rfl rfl rfl ?_
  refine mE_gf 26 rfl rfl c1 c2 rfl ?_
  refine mE_ildn 27 rfl rfl rfl rfl ?_
  refine mE_ila 28 rfl c3 xnn xv rfl ?_
  refine mE_istn 29 [(3, .int (xs[x.toNatClampNeg]'xl)), (0, .ref m), (1, .int x), (2, .int y)] rfl rfl rfl rfl ?_
  refine mE_aldn 30 rfl rfl rfl rfl ?_
  refine mE_gf 33 rfl rfl c1 c2 rfl ?_
  refine mE_ildn 34 rfl rfl rfl rfl ?_
  refine mE_ildn 35 rfl rfl rfl rfl ?_
  refine mE_isa 36 x.toNatClampNeg rfl c3 rfl (by rintro (q | q); exact xnn q; omega) rfl ?_
  refine mE_ildn 37 rfl rfl rfl rfl ?_
  exact mE_iret rfl ⟨rfl, Or.inr ⟨⟨hx, hy⟩, _, xv, rfl, rfl⟩⟩
set_option maxRecDepth 10000 in
theorem r_Mrain {d m a : Nat} {x y : Int32} {h : mS} {fs : List Value} {xs : List Int32} (c1 : h.1[m]? = some (.inr (11, fs))) (c2 : fs[1]? = some (.ref a)) (c3 : h.1[a]? = some (.inl (0, .inl xs))) (c4 : xs.length = 20) : mR (d + 2) 130 [.ref m, .int x, .int y] h (rnP xs x y a h) := by
  have e0 : (0 : Int32).toInt = 0 := by decide
  have e9 : (9 : Int32).toInt = 9 := by decide
  have e19 : (19 : Int32).toInt = 19 := by decide
  refine mR_ix [(0, .ref m), (1, .int x), (2, .int y)] rfl rfl rfl ?_
  refine mE_ildn 1 rfl rfl rfl rfl ?_
  refine mE_ico 2 0 rfl rfl rfl ?_
  refine mE_bip 4 19 rfl rfl rfl ?_
  refine mE_cs [.int x, .int 0, .int 19] [] rfl rfl rfl rfl rfl ?_
  obtain ⟨r, hh, k1, rfl, e9h⟩ := r_Mwithin d x 0 19 h
  subst e9h
  refine ⟨_, _, k1, ?_⟩
  refine mE_if_eq rfl (fun hx => ?_) (fun hx => ?_)
  · have hx := bit0_iff.mp hx
    rw [within_iff, e0, e19] at hx
    refine mE_ico 21 (-1) rfl rfl rfl ?_
    exact mE_iret rfl ⟨rfl, Or.inl ⟨fun q => hx q.1, rfl, rfl⟩⟩
  have hx := Classical.not_not.mp (fun q => hx (bit0_iff.mpr q))
  rw [within_iff, e0, e19] at hx
  refine mE_ildn 11 rfl rfl rfl rfl ?_
  refine mE_ico 12 0 rfl rfl rfl ?_
  refine mE_bip 14 9 rfl rfl rfl ?_
  refine mE_cs [.int y, .int 0, .int 9] [] rfl rfl rfl rfl rfl ?_
  obtain ⟨r, hh2, k2, rfl, e9h2⟩ := r_Mwithin d y 0 9 hh
  subst e9h2
  refine ⟨_, _, k2, ?_⟩
  refine mE_if_ne rfl (fun hy => ?_) (fun hy => ?_)
  rotate_left
  · have hy := bit0_iff.mp (Classical.not_not.mp hy)
    rw [within_iff, e0, e9] at hy
    refine mE_ico 21 (-1) rfl rfl rfl ?_
    exact mE_iret rfl ⟨rfl, Or.inl ⟨fun q => hy q.2, rfl, rfl⟩⟩
  have hy := Classical.not_not.mp (fun q => hy (bit0_iff.mpr q))
  rw [within_iff, e0, e9] at hy
  have xc : (x.toNatClampNeg : Int) = x.toInt := by
    show ((x.toInt.toNat : Nat) : Int) = x.toInt
    omega
  have xl : x.toNatClampNeg < xs.length := by rw [c4]; omega
  have xnn : ¬ x < 0 := fun q => by have := Int32.lt_iff_toInt_lt.mp q; omega
  have xv : xs[x.toNatClampNeg]? = some (xs[x.toNatClampNeg]'xl) := List.getElem?_eq_getElem xl
  refine mE_aldn 23 rfl rfl rfl rfl ?_
  refine mE_gf 26 rfl rfl c1 c2 rfl ?_
  refine mE_ildn 27 rfl rfl rfl rfl ?_
  refine mE_ila 28 rfl c3 xnn xv rfl ?_
  refine mE_istn 29 [(3, .int (xs[x.toNatClampNeg]'xl)), (0, .ref m), (1, .int x), (2, .int y)] rfl rfl rfl rfl ?_
  refine mE_aldn 30 rfl rfl rfl rfl ?_
  refine mE_gf 33 rfl rfl c1 c2 rfl ?_
  refine mE_ildn 34 rfl rfl rfl rfl ?_
  refine mE_ildn 35 rfl rfl rfl rfl ?_
  refine mE_isa 36 x.toNatClampNeg rfl c3 rfl (by rintro (q | q); exact xnn q; omega) rfl ?_
  refine mE_ildn 37 rfl rfl rfl rfl ?_
  exact mE_iret rfl ⟨rfl, Or.inr ⟨⟨hx, hy⟩, _, xv, rfl, rfl⟩⟩
theorem rn_fun {xs : List Int32} {x y : Int32} {a b : Nat} {h h' k k' : mS} {r r' : Option Value} (p : rnP xs x y a h r h') (q : rnP xs x y b k r' k') : r = r' := by
  rcases p with ⟨p1, p2, -⟩ | ⟨p1, v, p2, p3, -⟩ <;> rcases q with ⟨q1, q2, -⟩ | ⟨q1, w, q2, q3, -⟩
  · rw [p2, q2]
  · exact absurd q1 p1
  · exact absurd p1 q1
  · rw [p2] at q2
    cases q2
    rw [p3, q3]
theorem j_rain (x y : Int32) : bothJ JR 60 130 [.int x, .int y] (fun v1 v2 => v1 = v2) := by
  intro i g ρ h hi hI
  obtain ⟨v1, v2, h1, h2, g', ρ', fs, e1, e2, e3, e4, -, -⟩ := i_rain x y i g ρ h hi hI.1
  obtain ⟨i1, i2, i3, i4, i5, i7, i9, i10, i11, i12, i13⟩ := id hI.1
  have r4 : ρ[4]? = some 4 := at_rho i13 (by decide) rfl
  have r48 : ρ[48]? = some 31 := at_rho i13 (by decide) rfl
  obtain ⟨f0, a1, -, a3⟩ := fld i1 i2 rO_eq
  obtain ⟨w, a4, k4, rfl, a5⟩ := a3 3 (3, 4, 0) rfl
  have a5 : ρ[k4]? = some 4 := a5
  have hk4 : k4 = 4 := one_of i1 a5 r4 (by decide)
  subst hk4
  obtain ⟨c4, b1, xs, rfl, b2, -⟩ := i1.at r4 (R := .inr (.inl (0, 20, 0, 9))) rfl
  have b3 : h.1[48]? = some (.inl (0, .inl xs)) := by
    have : h.1[4]? = h.1[48]? := hI.2
    rw [← this]
    exact b1
  obtain ⟨f47, m1, -, m3⟩ := fld i1 i3 rM_eq
  obtain ⟨w, m4, k48, rfl, m5⟩ := m3 1 (3, 31, 0) rfl
  have m5 : ρ[k48]? = some 31 := m5
  have hk48 : k48 = 48 := one_of i1 m5 r48 (by decide)
  subst hk48
  obtain ⟨r1, ha, n1, n2⟩ := r_rain (d := 718) (x := x) (y := y) a1 a4 b1 b2
  rw [n1] at e1
  cases e1
  have l4 : 4 < h.1.length := (List.getElem?_eq_some_iff.mp b1).1
  have l48 : 48 < h.1.length := (List.getElem?_eq_some_iff.mp b3).1
  have o47 : h1.1[47]? = h.1[47]? := by
    rcases n2 with ⟨-, -, rfl⟩ | ⟨-, v, -, -, rfl⟩
    · rfl
    · exact List.getElem?_set_ne (by decide)
  have o48 : h1.1[48]? = h.1[48]? := by
    rcases n2 with ⟨-, -, rfl⟩ | ⟨-, v, -, -, rfl⟩
    · rfl
    · exact List.getElem?_set_ne (by decide)
  obtain ⟨r2, hb, n3, n4⟩ := r_Mrain (d := 718) (x := x) (y := y) (o47.trans m1) m4 (o48.trans b3) b2
  rw [n3] at e3
  cases e3
  have ev := rn_fun n2 n4
  cases ev
  refine ⟨v1, v1, h1, h2, g', ρ', fs, n1, e2, n3, ⟨e4, ?_⟩, rfl⟩
  show h2.1[4]? = h2.1[48]?
  rcases n2 with ⟨p1, -, rfl⟩ | ⟨p1, v, -, -, rfl⟩ <;> rcases n4 with ⟨q1, -, rfl⟩ | ⟨q1, w, -, -, rfl⟩
  · exact hI.2
  · exact absurd q1 p1
  · exact absurd p1 q1
  · show ((h.1.set 4 _).set 48 _)[4]? = ((h.1.set 4 _).set 48 _)[48]?
    rw [List.getElem?_set_ne (by decide), List.getElem?_set_self l4, List.getElem?_set_self (by rw [List.length_set]; exact l48)]
theorem j_house (x y : Int32) : bothJ JR 58 128 [.int x, .int y] (fun v1 v2 => v1 = v2) := jr_of (i_house x y) rfl rfl
theorem j_strip (x y z : Int32) : bothJ JR 59 129 [.int x, .int y, .int z] (fun v1 v2 => v1 = v2) := jr_of (i_strip x y z) rfl rfl
theorem j_beasts (x y : Int32) : bothJ JR 61 131 [.int x, .int y] (fun _ _ => True) := jr_of (i_beasts x y) rfl rfl
theorem j_sow (x : Int32) : bothJ JR 62 133 [.int x] (fun _ _ => True) := jr_of (i_sow x) rfl rfl
theorem j_reap (x : Int32) : bothJ JR 63 135 [.int x] (fun _ _ => True) := jr_of (i_reap x) rfl rfl
theorem j_week (x : Int32) : bothJ JR 64 141 [.int x] (fun v1 v2 => v1 = v2) := jr_of (i_week x) rfl rfl
theorem j_land (x y : Int32) : bothJ JR 65 142 [.int x, .int y] (fun _ _ => True) := jr_of (i_land x y) rfl rfl
theorem j_hold (x y : Int32) : bothJ JR 66 146 [.int x, .int y] (fun _ _ => True) := jr_of (i_hold x y) rfl rfl
theorem j_hunger (x : Int32) : bothJ JR 67 147 [.int x] (fun _ _ => True) := jr_of (i_hunger x) rfl rfl
theorem j_feed (x y : Int32) : bothJ JR 68 123 [.int x, .int y] (fun _ _ => True) := jr_of (i_feed x y) rfl rfl
theorem j_make (x y : Int32) : bothJ JR 69 124 [.int x, .int y] (fun _ _ => True) := jr_of (i_make x y) rfl rfl
theorem j_clear : bothJ JR 70 125 [] (fun _ _ => True) := jr_of (i_clear) rfl rfl
theorem j_law (x y z : Int32) : bothJ JR 71 126 [.int x, .int y, .int z] (fun _ _ => True) := jr_of (i_law x y z) rfl rfl
theorem j_text (x y : Int32) : bothJ JR 72 127 [.int x, .int y] (fun _ _ => True) := jr_of (i_text x y) rfl rfl
theorem j_stray (x y : Int32) : bothJ JR 73 148 [.int x, .int y] (fun _ _ => True) := jr_of (i_stray x y) rfl rfl
theorem j_book (x y : Int32) : bothJ JR 74 149 [.int x, .int y] (fun _ _ => True) := jr_of (i_book x y) rfl rfl
theorem j_apart (x : Int32) : bothJ JR 75 150 [.int x] (fun v1 v2 => v1 = v2) := jr_of (i_apart x) rfl rfl
theorem j_court : bothJ JR 76 151 [] (fun _ _ => True) := jr_of (i_court) rfl rfl
theorem j_swap (x y : Int32) : bothJ JR 77 155 [.int x, .int y] (fun _ _ => True) := jr_of (i_swap x y) rfl rfl
theorem j_better : bothJ JR 78 157 [] (fun _ _ => True) := jr_of (i_better) rfl rfl
theorem j_fewest (x : Int32) : bothJ JR 79 159 [.int x] (fun _ _ => True) := jr_of (i_fewest x) rfl rfl
theorem j_count (x : Int32) : bothJ JR 80 160 [.int x] (fun _ _ => True) := jr_of (i_count x) rfl rfl
