theorem okG11 {g : Nat → Int} (hg : okG aBl g) (h7 : g 11 ≤ 59) : okG aBl11 g := by
  intro p q hq
  by_cases hp : p = 11
  · subst hp
    have hq : some ((0, 59) : Int × Int) = some q := hq
    cases hq
    have := hg 11 (0, 60) rfl
    exact ⟨this.1, h7⟩
  · unfold aBl11 at hq
    rw [List.getElem?_set_ne (fun e => hp e.symm)] at hq
    exact hg p q hq
theorem okG11_60 : ∀ g, okG aBl11 g → okG aBl g := by
  intro g hg p q hq
  by_cases hp : p = 11
  · subst hp
    have hq : some ((0, 60) : Int × Int) = some q := hq
    cases hq
    have := hg 11 (0, 59) rfl
    have h1 : 0 ≤ g 11 := this.1
    have h2 : g 11 ≤ 59 := this.2
    exact ⟨h1, by show g 11 ≤ 60; omega⟩
  · refine hg p q ?_
    unfold aBl11
    rw [List.getElem?_set_ne (fun e => hp e.symm)]
    exact hq
set_option maxRecDepth 10000 in
set_option maxHeartbeats 2000000 in
theorem t_Mstrip {d : Nat} (hall : CTall ci_early (d + 1)) {g : Nat → Int} {ρ : List Nat} {m : Nat} {x y z : Int32} {h : mS} (hg : okG aBl g) (hH : okH rI0 g ρ h.1) (hm : ρ[m]? = some 30) : mR (d + 2) 129 [.ref m, .int x, .int y, .int z] h (fun r h' => ∃ (v : Int32) (w : Int), r = some (.int v) ∧ okH rI0 (gup g 11 w) ρ h'.1 ∧ sWa (g 10) (g 11) x y z v w ∧ okFr ρ [30, 37, 39, 40, 41, 42, 44, 49] h h') := by
  have hg0 := hg 10 (0, 12) rfl
  have hg0 : 0 ≤ g 10 ∧ g 10 ≤ 12 := hg0
  have hg1 := hg 11 (0, 60) rfl
  have hg1 : 0 ≤ g 11 ∧ g 11 ≤ 60 := hg1
  have e0 : (0 : Int32).toInt = 0 := by decide
  have e1 : (1 : Int32).toInt = 1 := by decide
  have e2 : (2 : Int32).toInt = 2 := by decide
  have e9 : (9 : Int32).toInt = 9 := by decide
  have e60 : (60 : Int32).toInt = 60 := by decide
  obtain ⟨fs, c1, c2, c3⟩ := fld hH hm rM_eq
  obtain ⟨v10, d1, c, rfl, d2⟩ := c3 9 (1, 10, 0) rfl
  have d2 : c.toInt = g 10 + 0 := d2
  obtain ⟨v11, d3, s, rfl, d4⟩ := c3 21 (1, 11, 0) rfl
  have d4 : s.toInt = g 11 + 0 := d4
  have stay : ∀ v : Int32, sWa (g 10) (g 11) x y z v (g 11) → ∃ (v' : Int32) (w : Int), some (Value.int v) = some (.int v') ∧ okH rI0 (gup g 11 w) ρ h.1 ∧ sWa (g 10) (g 11) x y z v' w ∧ okFr ρ [30, 37, 39, 40, 41, 42, 44, 49] h h := fun v hv => ⟨v, g 11, rfl, by rw [gup_same]; exact hH, hv, okFr.rfl⟩
  have no : ∀ b : Nat, ¬ sOk (g 10) x y z → mE (mcall (d + 1)) none 5 (mgd 124 mtX11_strip) (b + 2) (27, [(0, .ref m), (1, .int x), (2, .int y), (3, .int z)], [], h) (fun r h' => mretok (some .int) r = true ∧ ∃ (v : Int32) (w : Int), r = some (.int v) ∧ okH rI0 (gup g 11 w) ρ h'.1 ∧ sWa (g 10) (g 11) x y z v w ∧ okFr ρ [30, 37, 39, 40, 41, 42, 44, 49] h h') := by
    intro b hn
    refine mE_ico 28 (-1) rfl rfl rfl ?_
    exact mE_iret rfl ⟨rfl, stay (-1) (Or.inr (Or.inr ⟨hn, rfl, rfl⟩))⟩
  refine mR_ix [(0, .ref m), (1, .int x), (2, .int y), (3, .int z)] rfl rfl rfl ?_
  refine mE_ildn 1 rfl rfl rfl rfl ?_
  refine mE_ico 2 0 rfl rfl rfl ?_
  refine mE_ico 3 2 rfl rfl rfl ?_
  refine mE_cs [.int x, .int 0, .int 2] [] rfl rfl rfl rfl rfl ?_
  obtain ⟨r, hh, k1, rfl, e9h⟩ := r_Mwithin d x 0 2 h
  subst e9h
  refine ⟨_, _, k1, ?_⟩
  refine mE_if_eq rfl (fun hx => ?_) (fun hx => ?_)
  · have hx := bit0_iff.mp hx
    rw [within_iff, e0, e2] at hx
    exact mE_le (no 0 (fun q => hx q.1)) (Nat.le_of_ble_eq_true rfl)
  have hx := Classical.not_not.mp (fun q => hx (bit0_iff.mpr q))
  rw [within_iff, e0, e2] at hx
  refine mE_ildn 10 rfl rfl rfl rfl ?_
  refine mE_ico 11 1 rfl rfl rfl ?_
  refine mE_bip 13 9 rfl rfl rfl ?_
  refine mE_cs [.int y, .int 1, .int 9] [] rfl rfl rfl rfl rfl ?_
  obtain ⟨r, hh2, k2, rfl, e9h2⟩ := r_Mwithin d y 1 9 hh
  subst e9h2
  refine ⟨_, _, k2, ?_⟩
  refine mE_if_eq rfl (fun hy => ?_) (fun hy => ?_)
  · have hy := bit0_iff.mp hy
    rw [within_iff, e1, e9] at hy
    exact mE_le (no 0 (fun q => hy q.2.1)) (Nat.le_of_ble_eq_true rfl)
  have hy := Classical.not_not.mp (fun q => hy (bit0_iff.mpr q))
  rw [within_iff, e1, e9] at hy
  refine mE_aldn 20 rfl rfl rfl rfl ?_
  refine mE_ildn 21 rfl rfl rfl rfl ?_
  refine mE_cv [.int z] [] rfl rfl rfl rfl c1 rfl ?_
  obtain ⟨r, hh3, k3, rfl, e9h3⟩ := r_MisX d 106 9 z c m hh2 fs c1 d1 (Or.inl ⟨rfl, rfl⟩)
  subst e9h3
  refine ⟨_, _, k3, ?_⟩
  refine mE_if_ne rfl (fun hz => ?_) (fun hz => ?_)
  rotate_left
  · have hz := bit0_iff.mp (Classical.not_not.mp hz)
    exact mE_le (no 0 (fun q => hz ⟨q.2.2.1, by have := q.2.2.2; omega⟩)) (Nat.le_of_ble_eq_true rfl)
  have hz := Classical.not_not.mp (fun q => hz (bit0_iff.mpr q))
  have hok : sOk (g 10) x y z := ⟨hx, hy, hz.1, by omega⟩
  refine mE_aldn 30 rfl rfl rfl rfl ?_
  refine mE_gf 33 rfl rfl c1 d3 rfl ?_
  refine mE_bip 35 60 rfl rfl rfl ?_
  refine mE_ic_ne rfl (fun hc => ?_) (fun hc => ?_)
  rotate_left
  · have hc := Classical.not_not.mp hc
    refine mE_bip 40 (-2) rfl rfl rfl ?_
    exact mE_iret rfl ⟨rfl, stay (-2) (Or.inr (Or.inl ⟨hok, by rw [hc, e60] at d4; omega, rfl, rfl⟩))⟩
  have hc : g 11 ≤ 59 := by
    rcases Int.lt_or_le (g 11) 60 with q | q
    · omega
    · exact absurd (Int32.toInt_inj.mp (show s.toInt = (60 : Int32).toInt by omega)) hc
  have hex : ∀ (pc : Nat) (A : aAn) (mm : Int), anaf sMs pc = some A → pc ∈ [101] → Gs rI0 g ρ [39, 40, 41, 42, 44, 49] hh3 (d + 1) 5 (mgd 124 mtX11_strip) (fun r h' => mretok (some .int) r = true ∧ ∃ (v : Int32) (w : Int), r = some (.int v) ∧ okH rI0 (gup g 11 w) ρ h'.1 ∧ sWa (g 10) (g 11) x y z v w ∧ okFr ρ [30, 37, 39, 40, 41, 42, 44, 49] hh3 h') 0 mm (pc, A) := by
    intro pc A mm hA hpc
    rcases List.mem_cons.mp hpc with rfl | hpc
    rotate_left
    · cases hpc
    rw [sMs_e101] at hA
    cases hA
    intro lv st h2 hS _
    have hst := hS.2.2.1.nil
    subst hst
    obtain ⟨v, q1, k, rfl, q3⟩ := hS.2.1.get (x := 0) (t := (3, 30, 0)) rfl
    have q1 : mget lv 0 = some (.ref k) := q1
    have q3 : ρ[k]? = some 30 := q3
    obtain ⟨fs4, c4, c5, c6⟩ := fld hS.1 q3 rM_eq
    obtain ⟨v4, d5, s', rfl, d6⟩ := c6 21 (1, 11, 0) rfl
    have d6 : s'.toInt = g 11 + 0 := d6
    have d7 : (s' + 1).toInt = s'.toInt + 1 := by rw [add_id (by omega) (by omega), e1]
    have hl4 : 21 < fs4.length := (List.getElem?_eq_some_iff.mp d5).1
    refine ⟨400, Int.le_refl _, ?_⟩
    refine mE_aldn 102 rfl q1 rfl rfl ?_
    refine mE_dup 103 rfl rfl rfl ?_
    refine mE_gf 106 rfl rfl c4 d5 rfl ?_
    refine mE_ico 107 1 rfl rfl rfl ?_
    refine mE_iadd 108 (s' + 1) rfl rfl rfl ?_
    refine mE_pf 111 rfl c4 (by show (true && Nat.blt 21 fs4.length) = true; rw [Nat.blt_eq.mpr hl4]; rfl) rfl ?_
    have hH5 : okH rI0 (gup g 11 (g 11 + 1)) ρ (h2.1.set k (.inr (11, fs4.set 21 (.int (s' + 1))))) := okH_pset1 sp11 (by decide) hS.1 q3 rM_eq (j := 21) rfl rfl c4 (by omega)
    have hF5 : okFr ρ [30, 37, 39, 40, 41, 42, 44, 49] hh3 (h2.1.set k (.inr (11, fs4.set 21 (.int (s' + 1)))), h2.2) := (hS.2.2.2.2.mono (md' := [30, 37, 39, 40, 41, 42, 44, 49]) rfl).set q3 (by decide)
    have hg5 : okG aBl (gup g 11 (g 11 + 1)) := okG_up hg rfl (by show 0 ≤ g 11 + 1; omega) (by show g 11 + 1 ≤ 60; omega)
    obtain ⟨fs5, y1, -, -⟩ := fld hH5 q3 rM_eq
    refine mE_aldn 112 rfl q1 rfl rfl ?_
    refine mE_cv [] [] rfl rfl rfl rfl y1 rfl ?_
    obtain ⟨r, h8, k5, k6, k7, v8, rfl, ⟨x8, rfl, -⟩, -⟩ := hall ci_M_court _ rfl (gup g 11 (g 11 + 1)) ρ [.ref k] (h2.1.set k (.inr (11, fs4.set 21 (.int (s' + 1)))), h2.2) hg5 hH5 ⟨⟨k, rfl, q3⟩, trivial⟩ (fun q hq => by cases hq)
    refine ⟨_, _, k5, ?_⟩
    refine mE_ist 117 _ rfl rfl rfl rfl ?_
    obtain ⟨fs8, o1, -, o3⟩ := fld k6 q3 rM_eq
    obtain ⟨v0, o4, s8, rfl, o5⟩ := o3 21 (1, 11, 0) rfl
    have o5 : s8.toInt = gup g 11 (g 11 + 1) 11 + 0 := o5
    rw [gup_self] at o5
    have o6 : (s8 - 1).toInt = s8.toInt - 1 := by rw [sub_id (by omega) (by omega), e1]
    refine mE_aldn 118 rfl ((mget_put lv 4 0 _ (by decide) hS.2.2.2.1).trans q1) rfl rfl ?_
    refine mE_gf 121 rfl rfl o1 o4 rfl ?_
    refine mE_ico 122 1 rfl rfl rfl ?_
    refine mE_isub 123 (s8 - 1) rfl rfl rfl ?_
    exact mE_iret rfl ⟨rfl, s8 - 1, g 11 + 1, rfl, k6, Or.inl ⟨hok, by omega, by omega, rfl⟩, hF5.trans (k7.mono rfl)⟩
  have G := seg_ok (rt := some (7, 0, 0)) (Int.le_refl 0) (okG11 hg hc) (fun i q hq => (hall i q hq).nar okG11_60) (fun r h' _ _ q => elimT q) sMs_k hex
  obtain ⟨n, hn, kE⟩ := G _ 41 _ sMs_e41 [(0, .ref m), (1, .int x), (2, .int y), (3, .int z)] [] hh3 ⟨hH, okL.cons (v := .ref m) rfl ⟨m, rfl, hm⟩ (okL.cons (v := .int x) rfl (a32_ok x) (okL.cons (v := .int y) rfl (a32_ok y) (okL.cons (v := .int z) rfl ⟨z, rfl, hz.1, by show z.toInt ≤ g 10 + -1; omega⟩ okL.nil))), trivial, lvall _ rfl, okFr.rfl⟩ (Int.le_refl _)
  have hn : (n : Int) ≤ 436 + 0 + 0 := hn
  exact mE_le kE (Nat.le_trans (show n ≤ 436 by omega) (Nat.le_of_ble_eq_true rfl))
