/-! what holds between the calls of a run -/
def Inv (i : Nat) (g : Nat → Int) (ρ : List Nat) (h : mS) : Prop := okH rI0 g ρ h.1 ∧ ρ[0]? = some 0 ∧ ρ[47]? = some 30 ∧ okG aBl g ∧ (g 7 ≤ i ∧ g 8 ≤ i) ∧ ((h.1.length : Int) = 78 + g 0 + g 1 ∧ (h.2 : Int) = 4114 + 10 * g 0 + 14 * g 1) ∧ g 0 = g 10 ∧ g 1 = g 11 ∧ g 2 = g 12 ∧ g 3 = g 13
/-- a call of both, one behind the other; C: what is told of the answers -/
def bothI (y1 y2 : Nat) (as : List Value) (C : Int32 → Int32 → Prop) : Prop := ∀ (i : Nat) (g : Nat → Int) (ρ : List Nat) (h : mS), i ≤ 511 → Inv i g ρ h → ∃ (v1 v2 : Int32) (h1 h2 : mS) (g' : Nat → Int) (ρ' : List Nat) (fs : List Value), mcall 720 y1 (.ref 0 :: as) h = some (some (.int v1), h1) ∧ h1.1[47]? = some (.inr (11, fs)) ∧ mcall 720 y2 (.ref 47 :: as) h1 = some (some (.int v2), h2) ∧ Inv (i + 1) g' ρ' h2 ∧ C v1 v2
def PC1 (y : Nat) (as : List Value) : Prop := ∀ (g : Nat → Int) (ρ : List Nat) (h : mS), okG aBl g → okH rI0 g ρ h.1 → ρ[0]? = some 0 → ∃ (v : Int32) (h' : mS) (w6 w7 : Int), mcall 720 y (.ref 0 :: as) h = some (some (.int v), h') ∧ okH rI0 (gup (gup g 6 w6) 7 w7) ρ h'.1 ∧ h'.2 = h.2 ∧ 0 ≤ w6 ∧ w6 ≤ 8 ∧ (w7 = g 7 ∨ w7 = g 7 + 1)
def PM1 (y : Nat) (as : List Value) : Prop := ∀ (g : Nat → Int) (ρ : List Nat) (h : mS), okG aBl g → okH rI0 g ρ h.1 → ρ[47]? = some 30 → ∃ (v : Int32) (h' : mS) (w8 : Int), mcall 720 y (.ref 47 :: as) h = some (some (.int v), h') ∧ okH rI0 (gup g 8 w8) ρ h'.1 ∧ h'.2 = h.2 ∧ (w8 = g 8 ∨ w8 = g 8 + 1)
theorem gup_ne {g : Nat → Int} {p q : Nat} {w : Int} (h : q ≠ p) : gup g p w q = g q := by
  unfold gup
  rw [if_neg h]
theorem gup_67 {g : Nat → Int} : gup (gup g 6 (g 6)) 7 (g 7) = g := by
  rw [gup_same, gup_same]
theorem all32 {g : Nat → Int} {ρ : List Nat} : ∀ {ts : List aV} {as : List Value}, ts.all (fun t => decide (t = a32)) = true → as.all misint = true → as.length = ts.length → okA g ρ ts as
  | [], [], _, _, _ => trivial
  | t :: ts, v :: vs, h1, h2, h3 => by
    rw [List.all_cons, Bool.and_eq_true] at h1 h2
    have e := of_decide_eq_true h1.1
    refine ⟨?_, all32 h1.2 h2.2 (by simpa using h3)⟩
    rw [e]
    cases v with
    | int x => exact a32_ok x
    | _ => cases h2.1
  | [], _ :: _, _, _, h3 => by cases h3
  | _ :: _, [], _, _, h3 => by cases h3
theorem PC1_of {y : Nat} {ts : List aV} {ret : aV} {md : List Nat} {as : List Value} (hc : CT rI0 aBl 711 (y, (3, 0, 0) :: ts, [], some (ret, 0, a32), md)) (h1 : ts.all (fun t => decide (t = a32)) = true) (h2 : as.all misint = true) (h3 : as.length = ts.length) (h4 : aint aBl ret = true) : PC1 y as := by
  intro g ρ h hg hH hm
  obtain ⟨r, h', e1, e2, e3, v, rfl, hv, -⟩ := hc g ρ (.ref 0 :: as) h hg hH ⟨⟨0, rfl, hm⟩, all32 h1 h2 h3⟩ (fun q hq => by cases hq)
  obtain ⟨x, rfl⟩ := aint_ok hg h4 hv
  have hg6 := hg 6 (0, 8) rfl
  exact ⟨x, h', g 6, g 7, mcall_le (by omega) e1, by rw [gup_67]; exact e2, e3.2, hg6.1, hg6.2, Or.inl rfl⟩
theorem PM1_of {y : Nat} {ts : List aV} {ret : aV} {md : List Nat} {as : List Value} (hc : CT rI0 aBl 711 (y, (3, 30, 0) :: ts, [], some (ret, 0, a32), md)) (h1 : ts.all (fun t => decide (t = a32)) = true) (h2 : as.all misint = true) (h3 : as.length = ts.length) (h4 : aint aBl ret = true) : PM1 y as := by
  intro g ρ h hg hH hm
  obtain ⟨r, h', e1, e2, e3, v, rfl, hv, -⟩ := hc g ρ (.ref 47 :: as) h hg hH ⟨⟨47, rfl, hm⟩, all32 h1 h2 h3⟩ (fun q hq => by cases hq)
  obtain ⟨x, rfl⟩ := aint_ok hg h4 hv
  exact ⟨x, h', g 8, mcall_le (by omega) e1, by rw [gup_same]; exact e2, e3.2, Or.inl rfl⟩
theorem both_plain {y1 y2 : Nat} {as : List Value} (hC : PC1 y1 as) (hM : PM1 y2 as) : bothI y1 y2 as (fun _ _ => True) := by
  intro i g ρ h hi hI
  obtain ⟨i1, i2, i3, i4, ⟨i5, i6⟩, ⟨i7, i8⟩, i9, i10, i11, i12⟩ := hI
  obtain ⟨v1, h1, w6, w7, c1, c2, c3, c4, c5, c6⟩ := hC g ρ h i4 i1 i2
  have g7 := i4 7 (0, 600) rfl
  have g7 : 0 ≤ g 7 ∧ g 7 ≤ 600 := g7
  have g8 := i4 8 (0, 600) rfl
  have g8 : 0 ≤ g 8 ∧ g 8 ≤ 600 := g8
  have hg1 : okG aBl (gup (gup g 6 w6) 7 w7) := okG_up (okG_up i4 rfl c4 c5) rfl (by show 0 ≤ w7; omega) (by show w7 ≤ 600; omega)
  obtain ⟨fs, f1, -, -⟩ := fld c2 i3 rM_eq
  obtain ⟨v2, h2, w8, m1, m2, m3, m4⟩ := hM _ ρ h1 hg1 c2 i3
  have e8 : gup (gup g 6 w6) 7 w7 8 = g 8 := by rw [gup_ne (by decide), gup_ne (by decide)]
  rw [e8] at m4
  have lk : ∀ p, p ≠ 6 → p ≠ 7 → p ≠ 8 → gup (gup (gup g 6 w6) 7 w7) 8 w8 p = g p := fun p q6 q7 q8 => by rw [gup_ne q8, gup_ne q7, gup_ne q6]
  refine ⟨v1, v2, h1, h2, _, ρ, fs, c1, f1, m1, ⟨m2, i2, i3, okG_up hg1 rfl (by show 0 ≤ w8; omega) (by show w8 ≤ 600; omega), ⟨?_, ?_⟩, ⟨?_, ?_⟩, ?_, ?_, ?_, ?_⟩, trivial⟩
  · rw [gup_ne (by decide), gup_self]
    omega
  · rw [gup_self]
    omega
  · rw [lk 0 (by decide) (by decide) (by decide), lk 1 (by decide) (by decide) (by decide), ← i7, ← m2.1, ← i1.1]
  · rw [lk 0 (by decide) (by decide) (by decide), lk 1 (by decide) (by decide) (by decide), m3, c3]
    exact i8
  · rw [lk 0 (by decide) (by decide) (by decide), lk 10 (by decide) (by decide) (by decide)]; exact i9
  · rw [lk 1 (by decide) (by decide) (by decide), lk 11 (by decide) (by decide) (by decide)]; exact i10
  · rw [lk 2 (by decide) (by decide) (by decide), lk 12 (by decide) (by decide) (by decide)]; exact i11
  · rw [lk 3 (by decide) (by decide) (by decide), lk 13 (by decide) (by decide) (by decide)]; exact i12
theorem hallE {d : Nat} (h : 231 ≤ d) : CTall ci_early d := ca_early.le h
theorem hallA {d : Nat} (h : 711 ≤ d) : CTall ci_all d := ca_all.le h
/-- the calls that types close on both sides -/
theorem i_beasts (x y : Int32) : bothI 61 131 [.int x, .int y] (fun _ _ => True) := both_plain (PC1_of (hallA (Nat.le_refl _) ci_C_beasts _ rfl) rfl rfl rfl rfl) (PM1_of (hallA (Nat.le_refl _) ci_M_beasts _ rfl) rfl rfl rfl rfl)
theorem i_sow (x : Int32) : bothI 62 133 [.int x] (fun _ _ => True) := both_plain (PC1_of (hallA (Nat.le_refl _) ci_C_sow _ rfl) rfl rfl rfl rfl) (PM1_of (hallA (Nat.le_refl _) ci_M_sow _ rfl) rfl rfl rfl rfl)
theorem i_reap (x : Int32) : bothI 63 135 [.int x] (fun _ _ => True) := both_plain (PC1_of (hallA (Nat.le_refl _) ci_C_reap _ rfl) rfl rfl rfl rfl) (PM1_of (hallA (Nat.le_refl _) ci_M_reap _ rfl) rfl rfl rfl rfl)
theorem i_land (x y : Int32) : bothI 65 142 [.int x, .int y] (fun _ _ => True) := both_plain (PC1_of (hallA (Nat.le_refl _) ci_C_land _ rfl) rfl rfl rfl rfl) (PM1_of (hallA (Nat.le_refl _) ci_M_land _ rfl) rfl rfl rfl rfl)
theorem i_hold (x y : Int32) : bothI 66 146 [.int x, .int y] (fun _ _ => True) := both_plain (PC1_of (hallA (Nat.le_refl _) ci_C_hold _ rfl) rfl rfl rfl rfl) (PM1_of (hallA (Nat.le_refl _) ci_M_hold _ rfl) rfl rfl rfl rfl)
theorem i_make (x y : Int32) : bothI 69 124 [.int x, .int y] (fun _ _ => True) := both_plain (PC1_of (hallA (Nat.le_refl _) ci_C_make _ rfl) rfl rfl rfl rfl) (PM1_of (hallA (Nat.le_refl _) ci_M_make _ rfl) rfl rfl rfl rfl)
theorem i_clear : bothI 70 125 [] (fun _ _ => True) := both_plain (PC1_of (hallA (Nat.le_refl _) ci_C_clear _ rfl) rfl rfl rfl rfl) (PM1_of (hallA (Nat.le_refl _) ci_M_clear _ rfl) rfl rfl rfl rfl)
theorem i_law (x y z : Int32) : bothI 71 126 [.int x, .int y, .int z] (fun _ _ => True) := both_plain (PC1_of (hallA (Nat.le_refl _) ci_C_law _ rfl) rfl rfl rfl rfl) (PM1_of (hallA (Nat.le_refl _) ci_M_law _ rfl) rfl rfl rfl rfl)
theorem i_text (x y : Int32) : bothI 72 127 [.int x, .int y] (fun _ _ => True) := both_plain (PC1_of (hallA (Nat.le_refl _) ci_C_text _ rfl) rfl rfl rfl rfl) (PM1_of (hallA (Nat.le_refl _) ci_M_text _ rfl) rfl rfl rfl rfl)
theorem i_book (x y : Int32) : bothI 74 149 [.int x, .int y] (fun _ _ => True) := both_plain (PC1_of (hallA (Nat.le_refl _) ci_C_book _ rfl) rfl rfl rfl rfl) (PM1_of (hallA (Nat.le_refl _) ci_M_book _ rfl) rfl rfl rfl rfl)
theorem i_court : bothI 76 151 [] (fun _ _ => True) := both_plain (PC1_of (hallA (Nat.le_refl _) ci_C_court _ rfl) rfl rfl rfl rfl) (PM1_of (hallA (Nat.le_refl _) ci_M_court _ rfl) rfl rfl rfl rfl)
theorem i_swap (x y : Int32) : bothI 77 155 [.int x, .int y] (fun _ _ => True) := both_plain (PC1_of (hallA (Nat.le_refl _) ci_C_swap _ rfl) rfl rfl rfl rfl) (PM1_of (hallA (Nat.le_refl _) ci_M_swap _ rfl) rfl rfl rfl rfl)
theorem i_count (x : Int32) : bothI 80 160 [.int x] (fun _ _ => True) := both_plain (PC1_of (hallA (Nat.le_refl _) ci_C_count _ rfl) rfl rfl rfl rfl) (PM1_of (hallA (Nat.le_refl _) ci_M_count _ rfl) rfl rfl rfl rfl)
theorem i_rain (x y : Int32) : bothI 60 130 [.int x, .int y] (fun _ _ => True) := both_plain (PC1_of (hallA (Nat.le_refl _) ci_C_rain _ rfl) rfl rfl rfl rfl) (PM1_of (hallA (Nat.le_refl _) ci_M_rain _ rfl) rfl rfl rfl rfl)
/-- those of which one side is proved by hand -/
theorem i_feed (x y : Int32) : bothI 68 123 [.int x, .int y] (fun _ _ => True) := both_plain (PC1_of (hallA (Nat.le_refl _) ci_C_feed _ rfl) rfl rfl rfl rfl) (fun g ρ h hg hH hm => by
  obtain ⟨r, h', e1, v, rfl, e2, e3⟩ := t_Mfeed (d := 718) (hallE (by omega)) (x := x) (y := y) hg hH hm
  exact ⟨v, h', g 8, e1, by rw [gup_same]; exact e2, e3.2, Or.inl rfl⟩)
theorem i_better : bothI 78 157 [] (fun _ _ => True) := both_plain (PC1_of (hallA (Nat.le_refl _) ci_C_better _ rfl) rfl rfl rfl rfl) (fun g ρ h hg hH hm => by
  obtain ⟨r, h', e1, v, rfl, e2, e3⟩ := t_Mbetter (d := 718) (hallE (by omega)) hg hH hm
  exact ⟨v, h', g 8, e1, by rw [gup_same]; exact e2, e3.2, Or.inl rfl⟩)
theorem i_fewest (x : Int32) : bothI 79 159 [.int x] (fun _ _ => True) := both_plain (fun g ρ h hg hH hm => by
  obtain ⟨r, h', e1, v, n', rfl, e2, e3, e4, e5⟩ := t_fewest (d := 716) (hallE (by omega)) (x := x) hg hH hm
  exact ⟨v, h', n', g 7, e1, by rw [show gup (gup g 6 n') 7 (g 7) = gup g 6 n' from by rw [show g 7 = gup g 6 n' 7 from (gup_ne (by decide)).symm, gup_same]]; exact e2, e3.2, e4, e5, Or.inl rfl⟩) (fun g ρ h hg hH hm => by
  obtain ⟨r, h', e1, v, rfl, e2, e3⟩ := t_Mfewest (d := 718) (hallE (by omega)) (x := x) hg hH hm
  exact ⟨v, h', g 8, e1, by rw [gup_same]; exact e2, e3.2, Or.inl rfl⟩)
theorem i_hunger (x : Int32) : bothI 67 147 [.int x] (fun _ _ => True) := both_plain (fun g ρ h hg hH hm => by
  obtain ⟨r, h', e1, v, rfl, rfl⟩ := t_hunger (d := 719) (hallE (by omega)) (x := x) hg hH hm
  have hg6 := hg 6 (0, 8) rfl
  exact ⟨v, _, g 6, g 7, e1, by rw [gup_67]; exact hH, rfl, hg6.1, hg6.2, Or.inl rfl⟩) (fun g ρ h hg hH hm => by
  obtain ⟨r, h', e1, v, rfl, rfl⟩ := t_Mhunger (d := 719) (hallE (by omega)) (x := x) hg hH hm
  exact ⟨v, _, g 8, e1, by rw [gup_same]; exact hH, rfl, Or.inl rfl⟩)
theorem i_stray (x y : Int32) : bothI 73 148 [.int x, .int y] (fun _ _ => True) := both_plain (fun g ρ h hg hH hm => by
  obtain ⟨r, h', e1, v, n', rfl, e2, e3, e4⟩ := t_stray (d := 717) (hallE (by omega)) (x := x) (y := y) hg hH hm
  have hg6 := hg 6 (0, 8) rfl
  exact ⟨v, h', g 6, n', e1, by rw [gup_same]; exact e2, e3.2, hg6.1, hg6.2, e4⟩) (fun g ρ h hg hH hm => by
  obtain ⟨r, h', e1, v, n', rfl, e2, e3, e4⟩ := t_Mstray (d := 719) (hallA (by omega)) (x := x) (y := y) hg hH hm
  exact ⟨v, h', n', e1, e2, e3.2, e4⟩)
