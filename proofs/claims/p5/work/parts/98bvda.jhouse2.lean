set_option maxHeartbeats 2000000 in
theorem jp_house (x y : Int32) : bothJ JP 58 128 [.int x, .int y] (fun v1 v2 => v1 = v2) := by
  refine bothJ_add2 (jc_house x y) (i_house x y) ?_
  intro i g ρ h h1 h2 v1 v2 hI hf _ e1 e3 _ hJ
  obtain ⟨i1, i2, i3, i4, i5, i7, i9, i10, i11, i12, i13⟩ := id hI
  obtain ⟨H, S, qs, BL, OW, ⟨⟨f0, a1, a2⟩, fM, a3, a4⟩, ⟨b1, b2, b3⟩, hk⟩ := hJ
  obtain ⟨f0', H', w, nm, vs, z1, ⟨z2, z3, z4, z5, z6⟩, ⟨z7, z8⟩, -, -, -⟩ := C_at i1 i13
  rw [a1] at z1
  cases z1
  rw [a2] at z5
  cases z5
  have g0 := i4 0 (0, 12) rfl
  have g0 : 0 ≤ g 0 ∧ g 0 ≤ 12 := g0
  obtain ⟨c1', e1', qs', rfl', lq, hq⟩ := i1.at (at_rho i13 (k := 1) (r := 1) (by decide) rfl) (R := .inr (.inr (2, 12, 25, 2))) rfl
  rw [b1] at e1'
  cases e1'
  cases rfl'
  have r25 : ∀ k c : Nat, qs[k]? = some (some c) → ρ[c]? = some 25 := fun k c q => by
    rcases hq k _ q with ⟨q1, -⟩ | ⟨k', q1, q2⟩
    · cases q1
    · cases q1
      exact q2
  -- the reference leaves the class's cells
  have m1 : h2.1[1]? = h1.1[1]? := by
    obtain ⟨r, h1', c1, v1', w', ρ', c0, c2, c3, c4, c5⟩ := t_house (d := 718) (hallE (by omega)) (x := x) (y := y) i4 i1 i2
    have c1 : mcall 720 58 [.ref 0, .int x, .int y] h = some (r, h1') := c1
    rw [e1] at c1
    cases c1
    have hw : 0 ≤ w' ∧ w' ≤ 12 := by
      rcases c3 with ⟨-, q1, -, q2⟩ | ⟨-, -, -, q2⟩ | ⟨-, -, q2⟩ <;> omega
    have hg1 : okG aBl (gup g 0 w') := okG_up i4 rfl hw.1 hw.2
    have r47 : ρ'[47]? = some 30 := by
      rcases c4 with ⟨-, q, -⟩ | ⟨-, q, -⟩
      · rw [q]; exact i3
      · rw [q]; exact app_at i3
    have r1 : ρ'[1]? = some 1 := by
      rcases c4 with ⟨-, q, -⟩ | ⟨-, q, -⟩
      · rw [q]; exact at_rho i13 (by decide) rfl
      · rw [q]; exact app_at (at_rho i13 (by decide) rfl)
    obtain ⟨r, h2', d1, v2', w2, d0, d2, d3, d4⟩ := t_Mhouse (d := 718) (hallE (by omega)) (x := x) (y := y) hg1 c2 r47
    have d1 : mcall 720 128 [.ref 47, .int x, .int y] h1 = some (r, h2') := d1
    rw [e3] at d1
    cases d1
    exact d4.1 1 1 r1 (by decide)
  have fk2 : fk fFH h1.1 h2.1 := mcall_fk fS_H _ _ _ _ _ _ (elem_mem (show SH.elem 128 = true from rfl)) e3
  have n51 : h2.1[51]? = some (cAr BL) := (hf 51 34 rfl (by decide)).trans b2
  have n58 : h2.1[58]? = some (cAr OW) := (hf 58 41 rfl (by decide)).trans b3
  obtain ⟨r, h1', c1, c2⟩ := q_house (d := 718) (x := x) (y := y) a1 z2 a2 ⟨by omega, by omega⟩ b1 lq
  rw [e1] at c1
  cases c1
  rcases c2 with rfl | ⟨hlt, c2⟩
  · exact jh_fk fk2 m1 (n51.trans b2.symm) (n58.trans b3.symm) ⟨H, S, qs, BL, OW, ⟨⟨f0, a1, a2⟩, fM, a3, a4⟩, ⟨b1, b2, b3⟩, hk⟩
  have cc1 : (1 : Int32).toInt = 1 := by decide
  have hH1 : (H + 1).toInt = H.toInt + 1 := by rw [add_id (by omega) (by omega), cc1]
  have l10 : 10 < f0.length := (List.getElem?_eq_some_iff.mp a2).1
  have o0 : h1.1[0]? = some (.inr (10, f0.set 10 (.int (H + 1)))) := by
    rw [c2]
    exact List.getElem?_set_self (by have := (List.getElem?_eq_some_iff.mp a1).1; rw [List.length_set, List.length_append]; omega)
  have o1 : h1.1[1]? = some (.inl (2, .inr (qs.set H.toInt.toNat (some h.1.length)))) := by
    rw [c2, List.getElem?_set_ne (by decide)]
    exact List.getElem?_set_self (by have := (List.getElem?_eq_some_iff.mp b1).1; rw [List.length_append]; omega)
  have oo : ∀ (j : Nat) (c : mC), j ≠ 0 → j ≠ 1 → h.1[j]? = some c → h1.1[j]? = some c := fun j c q1 q2 q3 => by
    rw [c2, List.getElem?_set_ne (fun e => q1 e.symm), List.getElem?_set_ne (fun e => q2 e.symm)]
    exact mg_app2 q3
  have oN : h1.1[h.1.length]? = some (hNew H x y) := by
    have l1 := (List.getElem?_eq_some_iff.mp b1).1
    rw [c2, List.getElem?_set_ne (by omega), List.getElem?_set_ne (by omega)]
    exact lst_at
  obtain ⟨f0', d1, d2⟩ := fk2 0 10 _ o0
  obtain ⟨fM', d3, d4⟩ := fk2 47 11 fM (oo 47 _ (by decide) (by decide) a3)
  refine ⟨H + 1, S, qs.set H.toInt.toNat (some h.1.length), BL, OW, ⟨⟨f0', d1, (d2 10 rfl).trans (List.getElem?_set_self l10)⟩, fM', d3, (d4 21 rfl).trans a4⟩, ⟨m1.trans o1, n51, n58⟩, fun k hk12 => ⟨fun q => ?_, fun q => (hk k hk12).2 (by omega)⟩⟩
  by_cases hkH : k = H.toInt.toNat
  · obtain ⟨u1, u2⟩ := (hk k hk12).2 (by omega)
    obtain ⟨fs', d5, d6⟩ := fk2 _ 4 _ oN
    have hHk : H = Int32.ofNat k := Int32.toInt_inj.mp (by rw [ofN (by omega)]; omega)
    refine ⟨h.1.length, fs', 0, ?_, d5, ?_, ⟨d6 3 rfl, u1⟩, ?_⟩
    · rw [hkH]
      exact List.getElem?_set_self (by omega)
    · rw [← hHk]
      exact d6 0 rfl
    · rw [u2]
      exact d6 7 rfl
  · obtain ⟨c, hf', b, p1, p2, p3, p4, p5⟩ := (hk k hk12).1 (by omega)
    have hc := r25 k c p1
    have c0 : c ≠ 0 := fun e => by rw [e, i2] at hc; cases hc
    have c1 : c ≠ 1 := fun e => by rw [e, at_rho i13 (k := 1) (r := 1) (by decide) rfl] at hc; cases hc
    obtain ⟨fs', d5, d6⟩ := fk2 c 4 _ (oo c _ c0 c1 p2)
    exact ⟨c, fs', b, (List.getElem?_set_ne (fun e => hkH e.symm)).trans p1, d5, (d6 0 rfl).trans p3, ⟨(d6 3 rfl).trans p4.1, p4.2⟩, (d6 7 rfl).trans p5⟩
