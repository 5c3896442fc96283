/-! what holds between the calls of a run -/
def ρ00 : List Nat := [0, 1, 2, 3, 4, 5, 6, 7, 8, 9, 10, 11, 12, 13, 14, 15, 16, 17, 18, 19, 20, 21, 22, 23, 23, 23, 24, 10, 11, 12, 10, 11, 12, 24, 10, 11, 12, 10, 11, 12, 24, 10, 11, 12, 10, 11, 12, 30, 31, 32, 33, 34, 35, 36, 37, 38, 39, 40, 41, 42, 43, 44, 45, 46, 47, 48, 49, 50, 51, 52, 53, 54, 55, 56, 57, 58, 59, 60]
theorem take_app {ρ : List Nat} {r : Nat} (h : ρ.take 78 = ρ00) : (ρ ++ [r]).take 78 = ρ00 := by
  have h1 : (ρ.take 78).length = 78 := by rw [h]; rfl
  rw [List.length_take] at h1
  rw [List.take_append_of_le_length (by omega)]
  exact h
theorem at_rho {ρ : List Nat} (h : ρ.take 78 = ρ00) {k r : Nat} (hk : k < 78) (e : ρ00[k]? = some r) : ρ[k]? = some r := by
  rw [← h, List.getElem?_take_of_lt hk] at e
  exact e
def Inv (i : Nat) (g : Nat → Int) (ρ : List Nat) (h : mS) : Prop := okH rI0 g ρ h.1 ∧ ρ[0]? = some 0 ∧ ρ[47]? = some 30 ∧ okG aBl g ∧ (g 7 ≤ i ∧ g 8 ≤ i) ∧ ((h.1.length : Int) = 78 + g 0 + g 1 ∧ (h.2 : Int) = 4114 + 10 * g 0 + 14 * g 1) ∧ g 0 = g 10 ∧ g 1 = g 11 ∧ g 2 = g 12 ∧ g 3 = g 13 ∧ ρ.take 78 = ρ00
/-- a call of both, one behind the other; C: what is told of the answers -/
def bothI (md : List Nat) (y1 y2 : Nat) (as : List Value) (C : Int32 → Int32 → Prop) : Prop := ∀ (i : Nat) (g : Nat → Int) (ρ : List Nat) (h : mS), i ≤ 511 → Inv i g ρ h → ∃ (v1 v2 : Int32) (h1 h2 : mS) (g' : Nat → Int) (ρ' : List Nat) (fs : List Value), mcall 720 y1 (.ref 0 :: as) h = some (some (.int v1), h1) ∧ h1.1[47]? = some (.inr (11, fs)) ∧ mcall 720 y2 (.ref 47 :: as) h1 = some (some (.int v2), h2) ∧ Inv (i + 1) g' ρ' h2 ∧ C v1 v2 ∧ (∀ k r : Nat, ρ[k]? = some r → r ∉ md → h2.1[k]? = h.1[k]?) ∧ (md.elem 53 = true ∨ RR ρ h.1 h2.1)
def PC1 (md : List Nat) (y : Nat) (as : List Value) : Prop := ∀ (g : Nat → Int) (ρ : List Nat) (h : mS), okG aBl g → okH rI0 g ρ h.1 → ρ[0]? = some 0 → ∃ (v : Int32) (h' : mS) (w6 w7 : Int), mcall 720 y (.ref 0 :: as) h = some (some (.int v), h') ∧ okH rI0 (gup (gup g 6 w6) 7 w7) ρ h'.1 ∧ h'.2 = h.2 ∧ 0 ≤ w6 ∧ w6 ≤ 8 ∧ (w7 = g 7 ∨ w7 = g 7 + 1) ∧ (∀ k r : Nat, ρ[k]? = some r → r ∉ md → h'.1[k]? = h.1[k]?)
def PM1 (md : List Nat) (y : Nat) (as : List Value) : Prop := ∀ (g : Nat → Int) (ρ : List Nat) (h : mS), okG aBl g → okH rI0 g ρ h.1 → ρ[47]? = some 30 → ∃ (v : Int32) (h' : mS) (w8 : Int), mcall 720 y (.ref 47 :: as) h = some (some (.int v), h') ∧ okH rI0 (gup g 8 w8) ρ h'.1 ∧ h'.2 = h.2 ∧ (w8 = g 8 ∨ w8 = g 8 + 1) ∧ (∀ k r : Nat, ρ[k]? = some r → r ∉ md → h'.1[k]? = h.1[k]?) ∧ (md.elem 53 = true ∨ RR ρ h.1 h'.1)
theorem gup_ne {g : Nat → Int} {p q : Nat} {w : Int} (h : q ≠ p) : gup g p w q = g q := by
  unfold gup
  rw [if_neg h]
theorem gup_67 {g : Nat → Int} : gup (gup g 6 (g 6)) 7 (g 7) = g := by
  rw [gup_same, gup_same]
theorem all32 {g : Nat → Int} {ρ : List Nat} : ∀ {ts : List aV} {as : List Value}, ts.all (fun t => decide (t = a32)) = true → as.all misint = true → as.length = ts.length → okA g ρ ts as
  | [], [], _, _, _ => trivial
  | t :: ts, v :: vs, h1, h2, h3 => by
    rw [List.all_cons, Bool.and_eq_true] at h1 h2
    have e := of_decide_eq_true h1.1
    refine ⟨?_, all32 h1.2 h2.2 (by simpa using h3)⟩
    rw [e]
    cases v with
    | int x => exact a32_ok x
    | _ => cases h2.1
  | [], _ :: _, _, _, h3 => by cases h3
  | _ :: _, [], _, _, h3 => by cases h3
theorem PC1_of {y : Nat} {ts : List aV} {ret : aV} {md : List Nat} {as : List Value} (hc : CT rI0 aBl 711 (y, (3, 0, 0) :: ts, [], some (ret, 0, a32), md)) (h1 : ts.all (fun t => decide (t = a32)) = true) (h2 : as.all misint = true) (h3 : as.length = ts.length) (h4 : aint aBl ret = true) : PC1 md y as := by
  intro g ρ h hg hH hm
  obtain ⟨r, h', e1, e2, e3, v, rfl, hv, -⟩ := hc g ρ (.ref 0 :: as) h hg hH ⟨⟨0, rfl, hm⟩, all32 h1 h2 h3⟩ (fun q hq => by cases hq)
  obtain ⟨x, rfl⟩ := aint_ok hg h4 hv
  have hg6 := hg 6 (0, 8) rfl
  exact ⟨x, h', g 6, g 7, mcall_le (by omega) e1, by rw [gup_67]; exact e2, e3.2.1, hg6.1, hg6.2, Or.inl rfl, e3.1⟩
theorem PM1_of {y : Nat} {ts : List aV} {ret : aV} {md : List Nat} {as : List Value} (hc : CT rI0 aBl 711 (y, (3, 30, 0) :: ts, [], some (ret, 0, a32), md)) (h1 : ts.all (fun t => decide (t = a32)) = true) (h2 : as.all misint = true) (h3 : as.length = ts.length) (h4 : aint aBl ret = true) : PM1 md y as := by
  intro g ρ h hg hH hm
  obtain ⟨r, h', e1, e2, e3, v, rfl, hv, -⟩ := hc g ρ (.ref 47 :: as) h hg hH ⟨⟨47, rfl, hm⟩, all32 h1 h2 h3⟩ (fun q hq => by cases hq)
  obtain ⟨x, rfl⟩ := aint_ok hg h4 hv
  exact ⟨x, h', g 8, mcall_le (by omega) e1, by rw [gup_same]; exact e2, e3.2.1, Or.inl rfl, e3.1, e3.2.2⟩
theorem elem_app {a b : List Nat} {r : Nat} (h : b.elem r = true) : (a ++ b).elem r = true := List.elem_eq_true_of_mem (List.mem_append_right _ (elem_mem h))
theorem lo_not {md : List Nat} (hlo : md.all (fun r => Nat.blt r 30) = true) {r : Nat} (hr : 30 ≤ r) : r ∉ md := fun q => by
  have := Nat.blt_eq.mp (List.all_eq_true.mp hlo r q)
  omega
theorem RR_lo {ρ md : List Nat} {h h' : mS} (c : ∀ k r : Nat, ρ[k]? = some r → r ∉ md → h'.1[k]? = h.1[k]?) (hlo : md.all (fun r => Nat.blt r 30) = true) : RR ρ h.1 h'.1 := RR.of (fun k r q1 q2 => c k r q1 (lo_not hlo (by omega))) (fun k q => by rw [c k 30 q (lo_not hlo (by omega))])
theorem RR_sub {ρ ρ' : List Nat} {h h' : List mC} (hs : ∀ k r : Nat, ρ[k]? = some r → ρ'[k]? = some r) (a : RR ρ' h h') : RR ρ h h' := fun kT kN kW kM T N W x r1 r2 r3 r4 => a kT kN kW kM T N W x (hs _ _ r1) (hs _ _ r2) (hs _ _ r3) (hs _ _ r4)
theorem both_plain {md1 md2 : List Nat} {y1 y2 : Nat} {as : List Value} (hC : PC1 md1 y1 as) (hM : PM1 md2 y2 as) (hlo : md1.all (fun r => Nat.blt r 30) = true := by decide) : bothI (md1 ++ md2) y1 y2 as (fun _ _ => True) := by
  intro i g ρ h hi hI
  obtain ⟨i1, i2, i3, i4, ⟨i5, i6⟩, ⟨i7, i8⟩, i9, i10, i11, i12, i13⟩ := hI
  obtain ⟨v1, h1, w6, w7, c1, c2, c3, c4, c5, c6, c7⟩ := hC g ρ h i4 i1 i2
  have g7 := i4 7 (0, 600) rfl
  have g7 : 0 ≤ g 7 ∧ g 7 ≤ 600 := g7
  have g8 := i4 8 (0, 600) rfl
  have g8 : 0 ≤ g 8 ∧ g 8 ≤ 600 := g8
  have hg1 : okG aBl (gup (gup g 6 w6) 7 w7) := okG_up (okG_up i4 rfl c4 c5) rfl (by show 0 ≤ w7; omega) (by show w7 ≤ 600; omega)
  obtain ⟨fs, f1, -, -⟩ := fld c2 i3 rM_eq
  obtain ⟨v2, h2, w8, m1, m2, m3, m4, m5, m6⟩ := hM _ ρ h1 hg1 c2 i3
  have e8 : gup (gup g 6 w6) 7 w7 8 = g 8 := by rw [gup_ne (by decide), gup_ne (by decide)]
  rw [e8] at m4
  have lk : ∀ p, p ≠ 6 → p ≠ 7 → p ≠ 8 → gup (gup (gup g 6 w6) 7 w7) 8 w8 p = g p := fun p q6 q7 q8 => by rw [gup_ne q8, gup_ne q7, gup_ne q6]
  refine ⟨v1, v2, h1, h2, _, ρ, fs, c1, f1, m1, ⟨m2, i2, i3, okG_up hg1 rfl (by show 0 ≤ w8; omega) (by show w8 ≤ 600; omega), ⟨?_, ?_⟩, ⟨?_, ?_⟩, ?_, ?_, ?_, ?_, i13⟩, trivial, fun k r q1 q2 => (m5 k r q1 (fun q => q2 (List.mem_append_right _ q))).trans (c7 k r q1 (fun q => q2 (List.mem_append_left _ q))), m6.imp (fun z => elem_app z) (fun z => (RR_lo c7 hlo).trans z)⟩
  · rw [gup_ne (by decide), gup_self]
    omega
  · rw [gup_self]
    omega
  · rw [lk 0 (by decide) (by decide) (by decide), lk 1 (by decide) (by decide) (by decide), ← i7, ← m2.1, ← i1.1]
  · rw [lk 0 (by decide) (by decide) (by decide), lk 1 (by decide) (by decide) (by decide), m3, c3]
    exact i8
  · rw [lk 0 (by decide) (by decide) (by decide), lk 10 (by decide) (by decide) (by decide)]; exact i9
  · rw [lk 1 (by decide) (by decide) (by decide), lk 11 (by decide) (by decide) (by decide)]; exact i10
  · rw [lk 2 (by decide) (by decide) (by decide), lk 12 (by decide) (by decide) (by decide)]; exact i11
  · rw [lk 3 (by decide) (by decide) (by decide), lk 13 (by decide) (by decide) (by decide)]; exact i12
theorem hallE {d : Nat} (h : 231 ≤ d) : CTall ci_early d := ca_early.le h
theorem hallA {d : Nat} (h : 711 ≤ d) : CTall ci_all d := ca_all.le h
/-- the calls that types close on both sides -/
theorem i_beasts (x y : Int32) : bothI ([14, 15, 25] ++ [30, 34, 51, 52]) 61 131 [.int x, .int y] (fun _ _ => True) := both_plain (PC1_of (hallA (Nat.le_refl _) ci_C_beasts _ rfl) rfl rfl rfl rfl) (PM1_of (hallA (Nat.le_refl _) ci_M_beasts _ rfl) rfl rfl rfl rfl)
theorem i_sow (x : Int32) : bothI ([25, 26] ++ [32, 42, 45, 46, 47, 48, 49]) 62 133 [.int x] (fun _ _ => True) := both_plain (PC1_of (hallA (Nat.le_refl _) ci_C_sow _ rfl) rfl rfl rfl rfl) (PM1_of (hallA (Nat.le_refl _) ci_M_sow _ rfl) rfl rfl rfl rfl)
theorem i_reap (x : Int32) : bothI ([25, 26] ++ [32, 38, 42, 43, 44, 45]) 63 135 [.int x] (fun _ _ => True) := both_plain (PC1_of (hallA (Nat.le_refl _) ci_C_reap _ rfl) rfl rfl rfl rfl) (PM1_of (hallA (Nat.le_refl _) ci_M_reap _ rfl) rfl rfl rfl rfl)
theorem i_land (x y : Int32) : bothI ([14, 15] ++ [30, 51, 52]) 65 142 [.int x, .int y] (fun _ _ => True) := both_plain (PC1_of (hallA (Nat.le_refl _) ci_C_land _ rfl) rfl rfl rfl rfl) (PM1_of (hallA (Nat.le_refl _) ci_M_land _ rfl) rfl rfl rfl rfl)
theorem i_hold (x y : Int32) : bothI ([] ++ []) 66 146 [.int x, .int y] (fun _ _ => True) := both_plain (PC1_of (hallA (Nat.le_refl _) ci_C_hold _ rfl) rfl rfl rfl rfl) (PM1_of (hallA (Nat.le_refl _) ci_M_hold _ rfl) rfl rfl rfl rfl)
theorem i_make (x y : Int32) : bothI ([6, 8, 9, 10, 11, 12, 24] ++ [30, 51, 52, 53, 54]) 69 124 [.int x, .int y] (fun _ _ => True) := both_plain (PC1_of (hallA (Nat.le_refl _) ci_C_make _ rfl) rfl rfl rfl rfl) (PM1_of (hallA (Nat.le_refl _) ci_M_make _ rfl) rfl rfl rfl rfl)
theorem i_clear : bothI ([6] ++ [30]) 70 125 [] (fun _ _ => True) := both_plain (PC1_of (hallA (Nat.le_refl _) ci_C_clear _ rfl) rfl rfl rfl rfl) (PM1_of (hallA (Nat.le_refl _) ci_M_clear _ rfl) rfl rfl rfl rfl)
theorem i_law (x y z : Int32) : bothI ([14, 15] ++ [30, 51, 52]) 71 126 [.int x, .int y, .int z] (fun _ _ => True) := both_plain (PC1_of (hallA (Nat.le_refl _) ci_C_law _ rfl) rfl rfl rfl rfl) (PM1_of (hallA (Nat.le_refl _) ci_M_law _ rfl) rfl rfl rfl rfl)
theorem i_text (x y : Int32) : bothI ([] ++ [51, 52]) 72 127 [.int x, .int y] (fun _ _ => True) := both_plain (PC1_of (hallA (Nat.le_refl _) ci_C_text _ rfl) rfl rfl rfl rfl) (PM1_of (hallA (Nat.le_refl _) ci_M_text _ rfl) rfl rfl rfl rfl)
theorem i_book (x y : Int32) : bothI ([] ++ []) 74 149 [.int x, .int y] (fun _ _ => True) := both_plain (PC1_of (hallA (Nat.le_refl _) ci_C_book _ rfl) rfl rfl rfl rfl) (PM1_of (hallA (Nat.le_refl _) ci_M_book _ rfl) rfl rfl rfl rfl)
theorem i_court : bothI ([25] ++ [37]) 76 151 [] (fun _ _ => True) := both_plain (PC1_of (hallA (Nat.le_refl _) ci_C_court _ rfl) rfl rfl rfl rfl) (PM1_of (hallA (Nat.le_refl _) ci_M_court _ rfl) rfl rfl rfl rfl)
theorem i_swap (x y : Int32) : bothI ([25, 26] ++ [41]) 77 155 [.int x, .int y] (fun _ _ => True) := both_plain (PC1_of (hallA (Nat.le_refl _) ci_C_swap _ rfl) rfl rfl rfl rfl) (PM1_of (hallA (Nat.le_refl _) ci_M_swap _ rfl) rfl rfl rfl rfl)
theorem i_count (x : Int32) : bothI ([] ++ []) 80 160 [.int x] (fun _ _ => True) := both_plain (PC1_of (hallA (Nat.le_refl _) ci_C_count _ rfl) rfl rfl rfl rfl) (PM1_of (hallA (Nat.le_refl _) ci_M_count _ rfl) rfl rfl rfl rfl)
theorem i_rain (x y : Int32) : bothI ([4] ++ [31]) 60 130 [.int x, .int y] (fun _ _ => True) := both_plain (PC1_of (hallA (Nat.le_refl _) ci_C_rain _ rfl) rfl rfl rfl rfl) (PM1_of (hallA (Nat.le_refl _) ci_M_rain _ rfl) rfl rfl rfl rfl)
/-- those of which one side is proved by hand -/
theorem i_feed (x y : Int32) : bothI ([6, 7] ++ [30, 50]) 68 123 [.int x, .int y] (fun _ _ => True) := both_plain (md1 := [6, 7]) (md2 := [30, 50]) (PC1_of (hallA (Nat.le_refl _) ci_C_feed _ rfl) rfl rfl rfl rfl) (fun g ρ h hg hH hm => by
  obtain ⟨r, h', e1, v, rfl, e2, e3⟩ := t_Mfeed (d := 718) (hallE (by omega)) (x := x) (y := y) hg hH hm
  exact ⟨v, h', g 8, e1, by rw [gup_same]; exact e2, e3.2.1, Or.inl rfl, e3.1, e3.2.2⟩)
theorem i_better : bothI ([25, 26] ++ [41]) 78 157 [] (fun _ _ => True) := both_plain (md1 := [25, 26]) (md2 := [41]) (PC1_of (hallA (Nat.le_refl _) ci_C_better _ rfl) rfl rfl rfl rfl) (fun g ρ h hg hH hm => by
  obtain ⟨r, h', e1, v, rfl, e2, e3⟩ := t_Mbetter (d := 718) (hallE (by omega)) hg hH hm
  exact ⟨v, h', g 8, e1, by rw [gup_same]; exact e2, e3.2.1, Or.inl rfl, e3.1, e3.2.2⟩)
theorem i_fewest (x : Int32) : bothI ([18, 19, 20, 21, 22] ++ [30, 41, 59, 60]) 79 159 [.int x] (fun _ _ => True) := both_plain (md1 := [18, 19, 20, 21, 22]) (md2 := [30, 41, 59, 60]) (fun g ρ h hg hH hm => by
  obtain ⟨r, h', e1, v, n', rfl, e2, e3, e4, e5⟩ := t_fewest (d := 716) (hallE (by omega)) (x := x) hg hH hm
  exact ⟨v, h', n', g 7, e1, by rw [show gup (gup g 6 n') 7 (g 7) = gup g 6 n' from by rw [show g 7 = gup g 6 n' 7 from (gup_ne (by decide)).symm, gup_same]]; exact e2, e3.2.1, e4, e5, Or.inl rfl, e3.1⟩) (fun g ρ h hg hH hm => by
  obtain ⟨r, h', e1, v, rfl, e2, e3⟩ := t_Mfewest (d := 718) (hallE (by omega)) (x := x) hg hH hm
  exact ⟨v, h', g 8, e1, by rw [gup_same]; exact e2, e3.2.1, Or.inl rfl, e3.1, e3.2.2⟩)
theorem i_hunger (x : Int32) : bothI ([] ++ []) 67 147 [.int x] (fun _ _ => True) := both_plain (md1 := []) (md2 := []) (fun g ρ h hg hH hm => by
  obtain ⟨r, h', e1, v, rfl, rfl⟩ := t_hunger (d := 719) (hallE (by omega)) (x := x) hg hH hm
  have hg6 := hg 6 (0, 8) rfl
  exact ⟨v, _, g 6, g 7, e1, by rw [gup_67]; exact hH, rfl, hg6.1, hg6.2, Or.inl rfl, fun _ _ _ _ => rfl⟩) (fun g ρ h hg hH hm => by
  obtain ⟨r, h', e1, v, rfl, rfl⟩ := t_Mhunger (d := 719) (hallE (by omega)) (x := x) hg hH hm
  exact ⟨v, _, g 8, e1, by rw [gup_same]; exact hH, rfl, Or.inl rfl, fun _ _ _ _ => rfl, Or.inr RR.refl⟩)
theorem i_stray (x y : Int32) : bothI (strC ++ strM) 73 148 [.int x, .int y] (fun _ _ => True) := both_plain (md1 := strC) (md2 := strM) (fun g ρ h hg hH hm => by
  obtain ⟨r, h', e1, v, n', rfl, e2, e3, e4⟩ := t_stray (d := 717) (hallE (by omega)) (x := x) (y := y) hg hH hm
  have hg6 := hg 6 (0, 8) rfl
  exact ⟨v, h', g 6, n', e1, by rw [gup_same]; exact e2, e3.2.1, hg6.1, hg6.2, e4, e3.1⟩) (fun g ρ h hg hH hm => by
  obtain ⟨r, h', e1, v, n', rfl, e2, e3, e4⟩ := t_Mstray (d := 719) (hallA (by omega)) (x := x) (y := y) hg hH hm
  exact ⟨v, h', n', e1, e2, e3.2.1, e4, e3.1, e3.2.2⟩)
