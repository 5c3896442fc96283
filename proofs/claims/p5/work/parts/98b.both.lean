theorem mem_sub {md md' : List Nat} (hm : md.all (fun r => md'.elem r) = true) {r : Nat} (hr : r ∈ md) : r ∈ md' := elem_mem (List.all_eq_true.mp hm r hr)
/-! the calls that change a parameter: the same on both sides -/
theorem hW_fun {c : Int} {b n v v' : Int32} {w w' : Int} (h : hW c b n v w) (h' : hW c b n v' w') : v = v' ∧ w = w' := by
  rcases h with ⟨a1, a2, a3, a4⟩ | ⟨a1, a2, a3, a4⟩ | ⟨a1, a3, a4⟩ <;> rcases h' with ⟨b1, b2, b3, b4⟩ | ⟨b1, b2, b3, b4⟩ | ⟨b1, b3, b4⟩
  · exact ⟨Int32.toInt_inj.mp (by omega), by omega⟩
  · omega
  · exact absurd a1 b1
  · omega
  · exact ⟨by rw [a3, b3], by omega⟩
  · exact absurd a1 b1
  · exact absurd b1 a1
  · exact absurd b1 a1
  · exact ⟨by rw [a3, b3], by omega⟩
theorem i_house (x y : Int32) : bothI [0, 1, 25, 30, 32, 33] 58 128 [.int x, .int y] (fun v1 v2 => v1 = v2) := by
  intro i g ρ h hi hI
  obtain ⟨i1, i2, i3, i4, ⟨i5, i6⟩, ⟨i7, i8⟩, i9, i10, i11, i12, i13⟩ := hI
  obtain ⟨r, h1, c1, v1, w, ρ', rfl, c2, c3, c4, c5⟩ := t_house (d := 718) (hallE (by omega)) (x := x) (y := y) i4 i1 i2
  have g0 := i4 0 (0, 12) rfl
  have g0 : 0 ≤ g 0 ∧ g 0 ≤ 12 := g0
  have hw : 0 ≤ w ∧ w ≤ 12 := by
    rcases c3 with ⟨-, q1, -, q2⟩ | ⟨-, -, -, q2⟩ | ⟨-, -, q2⟩ <;> omega
  have hg1 : okG aBl (gup g 0 w) := okG_up i4 rfl hw.1 hw.2
  have r0 : ρ'[0]? = some 0 := by
    rcases c4 with ⟨-, q, -⟩ | ⟨-, q, -⟩
    · rw [q]; exact i2
    · rw [q]; exact app_at i2
  have r47 : ρ'[47]? = some 30 := by
    rcases c4 with ⟨-, q, -⟩ | ⟨-, q, -⟩
    · rw [q]; exact i3
    · rw [q]; exact app_at i3
  have r13 : ρ'.take 78 = ρ00 := by
    rcases c4 with ⟨-, q, -⟩ | ⟨-, q, -⟩
    · rw [q]; exact i13
    · rw [q]; exact take_app i13
  obtain ⟨fs, f1, -, -⟩ := fld c2 r47 rM_eq
  obtain ⟨r, h2, m1, v2, w2, rfl, m2, m3, m4⟩ := t_Mhouse (d := 718) (hallE (by omega)) (x := x) (y := y) hg1 c2 r47
  rw [gup_ne (by decide), ← i9] at m3
  obtain ⟨ev, ew⟩ := hW_fun c3 m3
  subst ew
  have lk : ∀ p, p ≠ 0 → p ≠ 10 → gup (gup g 0 w) 10 w p = g p := fun p q0 q1 => by rw [gup_ne q1, gup_ne q0]
  have l0 : gup (gup g 0 w) 10 w 0 = w := by rw [gup_ne (by decide), gup_self]
  have hlen : (h2.1.length : Int) = 78 + w + g 1 ∧ (h2.2 : Int) = 4114 + 10 * w + 14 * g 1 := by
    have e1 := m2.1
    have e2 := i1.1
    have e3 := m4.2.1
    rcases c4 with ⟨q1, q2, q3⟩ | ⟨q1, q2, q3⟩
    · subst q2
      subst q3
      exact ⟨by omega, by omega⟩
    · subst q2
      rw [List.length_append] at e1
      have : ([25] : List Nat).length = 1 := rfl
      exact ⟨by omega, by omega⟩
  refine ⟨v1, v2, h1, h2, _, ρ', fs, c1, f1, m1, ⟨m2, r0, r47, okG_up hg1 rfl hw.1 hw.2, ⟨?_, ?_⟩, ⟨?_, ?_⟩, ?_, ?_, ?_, ?_, r13⟩, ev, fun k r q1 q2 => ((m4.1 k r (by
    rcases c4 with ⟨-, q, -⟩ | ⟨-, q, -⟩
    · rw [q]; exact q1
    · rw [q]; exact app_at q1) (fun q => q2 (mem_sub rfl q))).trans (c5 k r q1 (fun q => q2 (mem_sub rfl q)))), m4.2.2.imp (fun z => absurd z (by decide)) (fun z => (RR_lo (md := [0, 1, 25]) c5 rfl).trans (RR_sub (fun k r q1 => by
    rcases c4 with ⟨-, q, -⟩ | ⟨-, q, -⟩
    · rw [q]; exact q1
    · rw [q]; exact app_at q1) z))⟩
  · rw [lk 7 (by decide) (by decide)]; omega
  · rw [lk 8 (by decide) (by decide)]; omega
  · rw [l0, lk 1 (by decide) (by decide)]; exact hlen.1
  · rw [l0, lk 1 (by decide) (by decide)]; exact hlen.2
  · rw [l0, gup_self]
  · rw [lk 1 (by decide) (by decide), lk 11 (by decide) (by decide)]; exact i10
  · rw [lk 2 (by decide) (by decide), lk 12 (by decide) (by decide)]; exact i11
  · rw [lk 3 (by decide) (by decide), lk 13 (by decide) (by decide)]; exact i12
theorem sWa_fun {c s : Int} {x y z v v' : Int32} {w w' : Int} (h : sWa c s x y z v w) (h' : sWa c s x y z v' w') : v = v' ∧ w = w' := by
  rcases h with ⟨a1, a2, a3, a4⟩ | ⟨a1, a2, a3, a4⟩ | ⟨a1, a3, a4⟩ <;> rcases h' with ⟨b1, b2, b3, b4⟩ | ⟨b1, b2, b3, b4⟩ | ⟨b1, b3, b4⟩
  · exact ⟨Int32.toInt_inj.mp (by omega), by omega⟩
  · omega
  · exact absurd a1 b1
  · omega
  · exact ⟨by rw [a3, b3], by omega⟩
  · exact absurd a1 b1
  · exact absurd b1 a1
  · exact absurd b1 a1
  · exact ⟨by rw [a3, b3], by omega⟩
theorem i_strip (x y z : Int32) : bothI [0, 2, 23, 25, 26, 30, 37, 39, 40, 41, 42, 44, 49] 59 129 [.int x, .int y, .int z] (fun v1 v2 => v1 = v2) := by
  intro i g ρ h hi hI
  obtain ⟨i1, i2, i3, i4, ⟨i5, i6⟩, ⟨i7, i8⟩, i9, i10, i11, i12, i13⟩ := hI
  obtain ⟨r, h1, c1, v1, w, ρ', rfl, c2, c3, c4, c5⟩ := t_strip (d := 717) (hallE (by omega)) (x := x) (y := y) (z := z) i4 i1 i2
  have g1 := i4 1 (0, 60) rfl
  have g1 : 0 ≤ g 1 ∧ g 1 ≤ 60 := g1
  have hw : 0 ≤ w ∧ w ≤ 60 := by
    rcases c3 with ⟨-, q1, -, q2⟩ | ⟨-, -, -, q2⟩ | ⟨-, -, q2⟩ <;> omega
  have hg1 : okG aBl (gup g 1 w) := okG_up i4 rfl hw.1 hw.2
  have r0 : ρ'[0]? = some 0 := by
    rcases c4 with ⟨-, q, -⟩ | ⟨-, q, -⟩
    · rw [q]; exact i2
    · rw [q]; exact app_at i2
  have r47 : ρ'[47]? = some 30 := by
    rcases c4 with ⟨-, q, -⟩ | ⟨-, q, -⟩
    · rw [q]; exact i3
    · rw [q]; exact app_at i3
  have r13 : ρ'.take 78 = ρ00 := by
    rcases c4 with ⟨-, q, -⟩ | ⟨-, q, -⟩
    · rw [q]; exact i13
    · rw [q]; exact take_app i13
  obtain ⟨fs, f1, -, -⟩ := fld c2 r47 rM_eq
  obtain ⟨r, h2, m1, v2, w2, rfl, m2, m3, m4⟩ := t_Mstrip (d := 718) (hallE (by omega)) (x := x) (y := y) (z := z) hg1 c2 r47
  rw [gup_ne (by decide), gup_ne (by decide), ← i9, ← i10] at m3
  obtain ⟨ev, ew⟩ := sWa_fun c3 m3
  subst ew
  have lk : ∀ p, p ≠ 1 → p ≠ 11 → gup (gup g 1 w) 11 w p = g p := fun p q0 q1 => by rw [gup_ne q1, gup_ne q0]
  have l1 : gup (gup g 1 w) 11 w 1 = w := by rw [gup_ne (by decide), gup_self]
  have hlen : (h2.1.length : Int) = 78 + g 0 + w ∧ (h2.2 : Int) = 4114 + 10 * g 0 + 14 * w := by
    have e1 := m2.1
    have e2 := i1.1
    have e3 := m4.2.1
    rcases c4 with ⟨q1, q2, q3⟩ | ⟨q1, q2, q3⟩
    · subst q2
      subst q3
      exact ⟨by omega, by omega⟩
    · subst q2
      rw [List.length_append] at e1
      have : ([26] : List Nat).length = 1 := rfl
      exact ⟨by omega, by omega⟩
  refine ⟨v1, v2, h1, h2, _, ρ', fs, c1, f1, m1, ⟨m2, r0, r47, okG_up hg1 rfl hw.1 hw.2, ⟨?_, ?_⟩, ⟨?_, ?_⟩, ?_, ?_, ?_, ?_, r13⟩, ev, fun k r q1 q2 => ((m4.1 k r (by
    rcases c4 with ⟨-, q, -⟩ | ⟨-, q, -⟩
    · rw [q]; exact q1
    · rw [q]; exact app_at q1) (fun q => q2 (mem_sub rfl q))).trans (c5 k r q1 (fun q => q2 (mem_sub rfl q)))), m4.2.2.imp (fun z => absurd z (by decide)) (fun z => (RR_lo (md := [0, 2, 23, 25, 26]) c5 rfl).trans (RR_sub (fun k r q1 => by
    rcases c4 with ⟨-, q, -⟩ | ⟨-, q, -⟩
    · rw [q]; exact q1
    · rw [q]; exact app_at q1) z))⟩
  · rw [lk 7 (by decide) (by decide)]; omega
  · rw [lk 8 (by decide) (by decide)]; omega
  · rw [l1, lk 0 (by decide) (by decide)]; exact hlen.1
  · rw [l1, lk 0 (by decide) (by decide)]; exact hlen.2
  · rw [lk 0 (by decide) (by decide), lk 10 (by decide) (by decide)]; exact i9
  · rw [l1, gup_self]
  · rw [lk 2 (by decide) (by decide), lk 12 (by decide) (by decide)]; exact i11
  · rw [lk 3 (by decide) (by decide), lk 13 (by decide) (by decide)]; exact i12
theorem i_week (x : Int32) : bothI [0, 14, 15, 24, 25, 26, 30, 32, 35, 36, 42, 43, 44, 45, 46, 51, 52] 64 141 [.int x] (fun v1 v2 => v1 = v2) := by
  intro i g ρ h hi hI
  obtain ⟨i1, i2, i3, i4, ⟨i5, i6⟩, ⟨i7, i8⟩, i9, i10, i11, i12, i13⟩ := hI
  obtain ⟨r, h1, c1, v1, w, rfl, c2, c3, c4⟩ := t_week (d := 717) (hallE (by omega)) (x := x) i4 i1 i2
  have g2 := i4 2 (0, 2000) rfl
  have g2 : 0 ≤ g 2 ∧ g 2 ≤ 2000 := g2
  have hw : 0 ≤ w ∧ w ≤ 2000 := by
    rcases c4 with ⟨q1, q2, q3, -, q4⟩ | ⟨-, -, q4⟩ <;> omega
  have hg1 : okG aBl (gup g 2 w) := okG_up i4 rfl hw.1 hw.2
  obtain ⟨fs, f1, -, -⟩ := fld c2 i3 rM_eq
  obtain ⟨r, h2, m1, v2, w2, rfl, m2, m3, m4⟩ := t_Mweek (d := 717) (hallA (by omega)) (x := x) hg1 c2 i3
  rw [gup_ne (by decide), ← i11] at m4
  have hvw : v1 = v2 ∧ w = w2 := by
    rcases c4 with ⟨q1, q2, q3, q4, q5⟩ | ⟨q1, q4, q5⟩ <;> rcases m4 with ⟨s1, s2, s3, s4, s5⟩ | ⟨s1, s4, s5⟩
    · exact ⟨Int32.toInt_inj.mp (by omega), by omega⟩
    · exact absurd ⟨q1, q2, q3⟩ s1
    · exact absurd ⟨s1, s2, s3⟩ q1
    · exact ⟨by rw [q4, s4], by omega⟩
  obtain ⟨ev, ew⟩ := hvw
  subst ew
  have lk : ∀ p, p ≠ 2 → p ≠ 12 → gup (gup g 2 w) 12 w p = g p := fun p q0 q1 => by rw [gup_ne q1, gup_ne q0]
  have e1 := m2.1
  have e2 := i1.1
  have e3 := m3.2.1
  have e4 := c3.2.1
  refine ⟨v1, v2, h1, h2, _, ρ, fs, c1, f1, m1, ⟨m2, i2, i3, okG_up hg1 rfl hw.1 hw.2, ⟨?_, ?_⟩, ⟨?_, ?_⟩, ?_, ?_, ?_, ?_, i13⟩, ev, fun k r q1 q2 => (m3.1 k r q1 (fun q => q2 (mem_sub rfl q))).trans (c3.1 k r q1 (fun q => q2 (mem_sub rfl q))), m3.2.2.imp (fun z => absurd z (by decide)) (fun z => (RR_lo c3.1 rfl).trans z)⟩
  · rw [lk 7 (by decide) (by decide)]; omega
  · rw [lk 8 (by decide) (by decide)]; omega
  · rw [lk 0 (by decide) (by decide), lk 1 (by decide) (by decide)]; omega
  · rw [lk 0 (by decide) (by decide), lk 1 (by decide) (by decide)]; omega
  · rw [lk 0 (by decide) (by decide), lk 10 (by decide) (by decide)]; exact i9
  · rw [lk 1 (by decide) (by decide), lk 11 (by decide) (by decide)]; exact i10
  · rw [gup_self, gup_ne (by decide), gup_self]
  · rw [lk 3 (by decide) (by decide), lk 13 (by decide) (by decide)]; exact i12
theorem i_apart (x : Int32) : bothI [0, 30] 75 150 [.int x] (fun v1 v2 => v1 = v2) := by
  intro i g ρ h hi hI
  obtain ⟨i1, i2, i3, i4, ⟨i5, i6⟩, ⟨i7, i8⟩, i9, i10, i11, i12, i13⟩ := hI
  obtain ⟨r, h1, c1, v1, w, rfl, c2, c3, c4⟩ := t_apart (d := 718) (x := x) i1 i2
  have g3 := i4 3 (0, 60) rfl
  have g3 : 0 ≤ g 3 ∧ g 3 ≤ 60 := g3
  have hw : 0 ≤ w ∧ w ≤ 60 := by
    rcases c4 with ⟨q1, q2, -, q4⟩ | ⟨-, -, q4⟩ <;> omega
  have hg1 : okG aBl (gup g 3 w) := okG_up i4 rfl hw.1 hw.2
  obtain ⟨fs, f1, -, -⟩ := fld c2 i3 rM_eq
  obtain ⟨r, h2, m1, v2, w2, rfl, m2, m3, m4⟩ := t_Mapart (d := 718) (x := x) c2 i3
  rw [gup_ne (by decide), ← i12] at m4
  have hvw : v1 = v2 ∧ w = w2 := by
    rcases c4 with ⟨q1, q2, q4, q5⟩ | ⟨q1, q4, q5⟩ <;> rcases m4 with ⟨s1, s2, s4, s5⟩ | ⟨s1, s4, s5⟩
    · exact ⟨Int32.toInt_inj.mp (by omega), by omega⟩
    · exact absurd ⟨q1, q2⟩ s1
    · exact absurd ⟨s1, s2⟩ q1
    · exact ⟨by rw [q4, s4], by omega⟩
  obtain ⟨ev, ew⟩ := hvw
  subst ew
  have lk : ∀ p, p ≠ 3 → p ≠ 13 → gup (gup g 3 w) 13 w p = g p := fun p q0 q1 => by rw [gup_ne q1, gup_ne q0]
  have e1 := m2.1
  have e2 := i1.1
  have e3 := m3.2.1
  have e4 := c3.2.1
  refine ⟨v1, v2, h1, h2, _, ρ, fs, c1, f1, m1, ⟨m2, i2, i3, okG_up hg1 rfl hw.1 hw.2, ⟨?_, ?_⟩, ⟨?_, ?_⟩, ?_, ?_, ?_, ?_, i13⟩, ev, fun k r q1 q2 => (m3.1 k r q1 (fun q => q2 (mem_sub rfl q))).trans (c3.1 k r q1 (fun q => q2 (mem_sub rfl q))), m3.2.2.imp (fun z => absurd z (by decide)) (fun z => (RR_lo c3.1 rfl).trans z)⟩
  · rw [lk 7 (by decide) (by decide)]; omega
  · rw [lk 8 (by decide) (by decide)]; omega
  · rw [lk 0 (by decide) (by decide), lk 1 (by decide) (by decide)]; omega
  · rw [lk 0 (by decide) (by decide), lk 1 (by decide) (by decide)]; omega
  · rw [lk 0 (by decide) (by decide), lk 10 (by decide) (by decide)]; exact i9
  · rw [lk 1 (by decide) (by decide), lk 11 (by decide) (by decide)]; exact i10
  · rw [lk 2 (by decide) (by decide), lk 12 (by decide) (by decide)]; exact i11
  · rw [gup_self, gup_ne (by decide), gup_self]
