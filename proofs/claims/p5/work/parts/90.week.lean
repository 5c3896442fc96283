/-! what parameters are, and calls of a contract -/
theorem okH_pset {g : Nat → Int} {ρ : List Nat} {h : List mC} {m r0 ci j p : Nat} {fts : List aV} {fs : List Value} {x : Int32} {w : Int} (hH : okH rI0 g ρ h) (hm : ρ[m]? = some r0) (hr : rI0 r0 = some (.inl (ci, fts))) (hj : fts[j]? = some (1, (p : Int), 0)) (ho : (fts.set j (5, 0, 0)).all (anpT p) = true) (hc : h[m]? = some (.inr (ci, fs))) (hx : x.toInt = w) (hrest : ∀ (k r : Nat) (R : aR) (c : mC), k ≠ m → ρ[k]? = some r → h[k]? = some c → rI0 r = some R → anpR p R = false → okC (gup g p w) ρ R c) : okH rI0 (gup g p w) ρ (h.set m (.inr (ci, fs.set j (.int x)))) := by
  obtain ⟨c, h1, fs', rfl, h2, h3⟩ := hH.at hm hr
  rw [hc] at h1
  cases h1
  refine okH_updset hH hm hr ⟨_, rfl, by rw [List.length_set]; exact h2, fun i t v a1 a2 => ?_⟩ hrest
  by_cases he : j = i
  · subst he
    have hl : j < fs.length := by rw [h2]; exact (List.getElem?_eq_some_iff.mp hj).1
    rw [List.getElem?_set_self hl] at a2
    cases a2
    rw [hj] at a1
    cases a1
    exact ⟨x, rfl, by show x.toInt = gup g p w p + 0; rw [gup_self]; omega⟩
  · rw [List.getElem?_set_ne he] at a2
    refine hasT_upd (List.all_eq_true.mp ho t ?_) (h3 i t v a1 a2)
    have : (fts.set j (5, 0, 0))[i]? = some t := by rw [List.getElem?_set_ne he]; exact a1
    exact List.mem_of_getElem? this
/-- the same, where one cell alone speaks of it -/
theorem okH_pset1 {g : Nat → Int} {ρ : List Nat} {h : List mC} {m r0 ci j p : Nat} {fts : List aV} {fs : List Value} {x : Int32} {w : Int} (hs : (aspk p).all (fun r => Nat.beq (grp r) (grp r0)) = true) (hgr : grp r0 ≠ 0) (hH : okH rI0 g ρ h) (hm : ρ[m]? = some r0) (hr : rI0 r0 = some (.inl (ci, fts))) (hj : fts[j]? = some (1, (p : Int), 0)) (ho : (fts.set j (5, 0, 0)).all (anpT p) = true) (hc : h[m]? = some (.inr (ci, fs))) (hx : x.toInt = w) : okH rI0 (gup g p w) ρ (h.set m (.inr (ci, fs.set j (.int x)))) := by
  refine okH_pset hH hm hr hj ho hc hx (fun k r R c hne a1 a2 a3 a4 => ?_)
  have h1 := List.all_eq_true.mp hs r (aspk_ok a3 a4)
  exact absurd (hH.2.2 k m r r0 a1 hm (mlen h1) (by rw [mlen h1]; exact hgr)) hne
theorem sp2 : (aspk 2).all (fun r => Nat.beq (grp r) (grp 0)) = true := by decide +kernel
theorem sp3 : (aspk 3).all (fun r => Nat.beq (grp r) (grp 0)) = true := by decide +kernel
theorem sp8 : (aspk 8).all (fun r => Nat.beq (grp r) (grp 30)) = true := by decide +kernel
theorem sp10 : (aspk 10).all (fun r => Nat.beq (grp r) (grp 30)) = true := by decide +kernel
theorem sp11 : (aspk 11).all (fun r => Nat.beq (grp r) (grp 30)) = true := by decide +kernel
theorem sp12 : (aspk 12).all (fun r => Nat.beq (grp r) (grp 30)) = true := by decide +kernel
theorem sp13 : (aspk 13).all (fun r => Nat.beq (grp r) (grp 30)) = true := by decide +kernel
theorem bit0_iff {p : Prop} [Decidable p] : ((if p then (1 : Int32) else 0) = 0) ↔ ¬ p := by
  split <;> simp_all
section PB
variable {g : Nat → Int} {ρ : List Nat} {m d nL : Nat} {h : mS} {tab : Nat → Option mI} {P : Option Value → mS → Prop} {pc b : Nat} {lv : mL} {st : List Value}
/-- a call without arguments or answer -/
theorem p_call0 {n y r ci q : Nat} {md : List Nat} {fts : List aV} (hc : CT rI0 aBl d (y, [(3, (r : Int), 0)], [], none, md)) (hg : okG aBl g) (hH : okH rI0 g ρ h.1) (hm : ρ[m]? = some r) (hr : rI0 r = some (.inl (ci, fts))) (hci : ci < 100) (t : tab pc = some (.invokevirtual n, 3, y + 10, 0, ci, q)) (hs : (Nat.ble st.length 8 && st.all mone) = true) (k : ∀ h', okH rI0 g ρ h'.1 → okFr ρ md h h' → mE (mcall d) none nL tab b (pc + 3, lv, st, h') P) : mE (mcall d) none nL tab (b + 1) (pc, lv, .ref m :: st, h) P := by
  obtain ⟨s1, s2⟩ := mand hs
  obtain ⟨fs, c1, -, -⟩ := fld hH hm hr
  have hcl : mcl100 ci = ci := by
    unfold mcl100
    rw [Nat.blt_eq.mpr hci]
    rfl
  obtain ⟨r2, h', e1, e2, e3, e4⟩ := hc g ρ [.ref m] h hg hH ⟨⟨m, rfl, hm⟩, trivial⟩ (fun q hq => by cases hq)
  have e4 : r2 = none := e4
  subst e4
  refine mE_cv [] st t (by
    cases hb : Nat.blt (y + 10) 10 with
    | true => have := Nat.blt_eq.mp hb; omega
    | false => rfl) rfl rfl (by rw [hcl]; exact c1) (by simp only [List.take_zero, List.all_nil, s1, s2]; rfl) ?_
  exact ⟨none, h', by rw [Nat.add_sub_cancel]; exact e1, k h' e2 e3⟩
end PB
set_option maxRecDepth 10000 in
theorem t_apart {d : Nat} {g : Nat → Int} {ρ : List Nat} {m : Nat} {x : Int32} {h : mS} (hH : okH rI0 g ρ h.1) (hm : ρ[m]? = some 0) : mR (d + 2) 75 [.ref m, .int x] h (fun r h' => ∃ (v : Int32) (w : Int), r = some (.int v) ∧ okH rI0 (gup g 3 w) ρ h'.1 ∧ okFr ρ [0] h h' ∧ ((0 ≤ x.toInt ∧ x.toInt ≤ 60 ∧ v.toInt = g 3 ∧ w = x.toInt) ∨ (¬ (0 ≤ x.toInt ∧ x.toInt ≤ 60) ∧ v = -1 ∧ w = g 3))) := by
  have e0 : (0 : Int32).toInt = 0 := by decide
  have e60 : (60 : Int32).toInt = 60 := by decide
  obtain ⟨fs, c1, c2, c3⟩ := fld hH hm rO_eq
  obtain ⟨v1, d1, a, rfl, d2⟩ := c3 14 (1, 3, 0) rfl
  have d2 : a.toInt = g 3 + 0 := d2
  have hl : 14 < fs.length := (List.getElem?_eq_some_iff.mp d1).1
  refine mR_ix [(0, .ref m), (1, .int x)] rfl rfl rfl ?_
  refine mE_ildn 1 rfl rfl rfl rfl ?_
  refine mE_ico 2 0 rfl rfl rfl ?_
  refine mE_bip 4 60 rfl rfl rfl ?_
  refine mE_cs [.int x, .int 0, .int 60] [] rfl rfl rfl rfl rfl ?_
  obtain ⟨r, h', k1, rfl, rfl⟩ := r_within d x 0 60 h
  refine ⟨_, _, k1, ?_⟩
  have hiff : (0 ≤ x ∧ x ≤ 60) ↔ (0 ≤ x.toInt ∧ x.toInt ≤ 60) := by rw [Int32.le_iff_toInt_le, Int32.le_iff_toInt_le, e0, e60]
  refine mE_if_ne rfl (fun hx => ?_) (fun hx => ?_)
  · have hx := hiff.mp (Classical.not_not.mp (fun q => hx (bit0_iff.mpr q)))
    refine mE_aldn 13 rfl rfl rfl rfl ?_
    refine mE_gf 16 rfl rfl c1 d1 rfl ?_
    refine mE_istn 17 [(2, .int a), (0, .ref m), (1, .int x)] rfl rfl rfl rfl ?_
    refine mE_aldn 18 rfl rfl rfl rfl ?_
    refine mE_ildn 19 rfl rfl rfl rfl ?_
    refine mE_pf 22 rfl c1 (by show (true && Nat.blt 14 fs.length) = true; rw [Nat.blt_eq.mpr hl]; rfl) rfl ?_
    refine mE_ildn 23 rfl rfl rfl rfl ?_
    exact mE_iret rfl ⟨rfl, a, x.toInt, rfl, okH_pset1 sp3 (by decide) hH hm rO_eq (j := 14) rfl rfl c1 rfl, okFr.set okFr.rfl hm (by decide), Or.inl ⟨hx.1, hx.2, by omega, rfl⟩⟩
  · have hx := bit0_iff.mp (Classical.not_not.mp hx)
    refine mE_ico 11 (-1) rfl rfl rfl ?_
    exact mE_iret rfl ⟨rfl, -1, g 3, rfl, by rw [gup_same]; exact hH, okFr.rfl, Or.inr ⟨fun q => hx (hiff.mpr q), rfl, rfl⟩⟩
set_option maxRecDepth 10000 in
theorem t_Mapart {d : Nat} {g : Nat → Int} {ρ : List Nat} {m : Nat} {x : Int32} {h : mS} (hH : okH rI0 g ρ h.1) (hm : ρ[m]? = some 30) : mR (d + 2) 150 [.ref m, .int x] h (fun r h' => ∃ (v : Int32) (w : Int), r = some (.int v) ∧ okH rI0 (gup g 13 w) ρ h'.1 ∧ okFr ρ [30] h h' ∧ ((0 ≤ x.toInt ∧ x.toInt ≤ 60 ∧ v.toInt = g 13 ∧ w = x.toInt) ∨ (¬ (0 ≤ x.toInt ∧ x.toInt ≤ 60) ∧ v = -1 ∧ w = g 13))) := by
  have e0 : (0 : Int32).toInt = 0 := by decide
  have e60 : (60 : Int32).toInt = 60 := by decide
  obtain ⟨fs, c1, c2, c3⟩ := fld hH hm rM_eq
  obtain ⟨v1, d1, a, rfl, d2⟩ := c3 39 (1, 13, 0) rfl
  have d2 : a.toInt = g 13 + 0 := d2
  have hl : 39 < fs.length := (List.getElem?_eq_some_iff.mp d1).1
  refine mR_ix [(0, .ref m), (1, .int x)] rfl rfl rfl ?_
  refine mE_ildn 1 rfl rfl rfl rfl ?_
  refine mE_ico 2 0 rfl rfl rfl ?_
  refine mE_bip 4 60 rfl rfl rfl ?_
  refine mE_cs [.int x, .int 0, .int 60] [] rfl rfl rfl rfl rfl ?_
  obtain ⟨r, h', k1, rfl, rfl⟩ := r_Mwithin d x 0 60 h
  refine ⟨_, _, k1, ?_⟩
  have hiff : (0 ≤ x ∧ x ≤ 60) ↔ (0 ≤ x.toInt ∧ x.toInt ≤ 60) := by rw [Int32.le_iff_toInt_le, Int32.le_iff_toInt_le, e0, e60]
  refine mE_if_ne rfl (fun hx => ?_) (fun hx => ?_)
  · have hx := hiff.mp (Classical.not_not.mp (fun q => hx (bit0_iff.mpr q)))
    refine mE_aldn 13 rfl rfl rfl rfl ?_
    refine mE_gf 16 rfl rfl c1 d1 rfl ?_
    refine mE_istn 17 [(2, .int a), (0, .ref m), (1, .int x)] rfl rfl rfl rfl ?_
    refine mE_aldn 18 rfl rfl rfl rfl ?_
    refine mE_ildn 19 rfl rfl rfl rfl ?_
    refine mE_pf 22 rfl c1 (by show (true && Nat.blt 39 fs.length) = true; rw [Nat.blt_eq.mpr hl]; rfl) rfl ?_
    refine mE_ildn 23 rfl rfl rfl rfl ?_
    exact mE_iret rfl ⟨rfl, a, x.toInt, rfl, okH_pset1 sp13 (by decide) hH hm rM_eq (j := 39) rfl rfl c1 rfl, okFr.set okFr.rfl hm (by decide), Or.inl ⟨hx.1, hx.2, by omega, rfl⟩⟩
  · have hx := bit0_iff.mp (Classical.not_not.mp hx)
    refine mE_ico 11 (-1) rfl rfl rfl ?_
    exact mE_iret rfl ⟨rfl, -1, g 13, rfl, by rw [gup_same]; exact hH, okFr.rfl, Or.inr ⟨fun q => hx (hiff.mpr q), rfl, rfl⟩⟩
set_option maxRecDepth 10000 in
/-- a WEEK begins -/
theorem r_beginWeek {d : Nat} (hall : CTall ci_early d) {g : Nat → Int} {ρ : List Nat} {m : Nat} {h : mS} (hg : okG aBl g) (hH : okH rI0 g ρ h.1) (hm : ρ[m]? = some 0) (h2 : g 2 ≤ 1999) : mR (d + 1) 92 [.ref m] h (fun r h' => r = none ∧ okH rI0 (gup g 2 (g 2 + 1)) ρ h'.1 ∧ okFr ρ [0, 26, 24] h h') := by
  have e1 : (1 : Int32).toInt = 1 := by decide
  have hg2 := hg 2 (0, 2000) rfl
  have hg2 : 0 ≤ g 2 ∧ g 2 ≤ 2000 := hg2
  obtain ⟨fs, c1, c2, c3⟩ := fld hH hm rO_eq
  obtain ⟨v1, d1, a, rfl, d2⟩ := c3 12 (1, 2, 0) rfl
  have d2 : a.toInt = g 2 + 0 := d2
  have d3 : (a + 1).toInt = a.toInt + 1 := by rw [add_id (by omega) (by omega), e1]
  have hl : 12 < fs.length := (List.getElem?_eq_some_iff.mp d1).1
  have hg' : okG aBl (gup g 2 (g 2 + 1)) := okG_up hg rfl (by show 0 ≤ g 2 + 1; omega) (by show g 2 + 1 ≤ 2000; omega)
  refine mR_ix [(0, .ref m)] rfl rfl rfl ?_
  refine mE_aldn 1 rfl rfl rfl rfl ?_
  refine mE_dup 2 rfl rfl rfl ?_
  refine mE_gf 5 rfl rfl c1 d1 rfl ?_
  refine mE_ico 6 1 rfl rfl rfl ?_
  refine mE_iadd 7 (a + 1) rfl rfl rfl ?_
  refine mE_pf 10 rfl c1 (by show (true && Nat.blt 12 fs.length) = true; rw [Nat.blt_eq.mpr hl]; rfl) rfl ?_
  have hH1 : okH rI0 (gup g 2 (g 2 + 1)) ρ (h.1.set m (.inr (10, fs.set 12 (.int (a + 1))))) := okH_pset1 sp2 (by decide) hH hm rO_eq (j := 12) rfl rfl c1 (by omega)
  have G := seg_ok (h0 := (h.1.set m (.inr (10, fs.set 12 (.int (a + 1)))), h.2)) (ρ := ρ) (X := 0) (P := fun r h' => mretok none r = true ∧ (r = none ∧ okH rI0 (gup g 2 (g 2 + 1)) ρ h'.1 ∧ okFr ρ [0, 26, 24] h h')) (rt := none) (Int.le_refl 0) hg' hall (fun r h' q1 q2 q3 => by
    have q3 : r = none := q3
    subst q3
    exact ⟨rfl, rfl, q1, (okFr.set (h := h) okFr.rfl hm (by decide)).trans q2⟩) sB_k (fun pc A mm hA hpc => by cases hpc)
  obtain ⟨b, hb, kE⟩ := G _ 10 _ sB_e10 [(0, .ref m)] [] _ ⟨hH1, okL.cons (v := .ref m) rfl ⟨m, rfl, hm⟩ okL.nil, trivial, lvall _ rfl, okFr.rfl⟩ (Int.le_refl _)
  have hb : (b : Int) ≤ 49 + 0 + 0 := hb
  exact mE_le kE (by show b ≤ 999999999994; omega)
set_option maxRecDepth 10000 in
set_option maxHeartbeats 1000000 in
theorem t_week {d : Nat} (hall : CTall ci_early (d + 1)) {g : Nat → Int} {ρ : List Nat} {m : Nat} {x : Int32} {h : mS} (hg : okG aBl g) (hH : okH rI0 g ρ h.1) (hm : ρ[m]? = some 0) : mR (d + 3) 64 [.ref m, .int x] h (fun r h' => ∃ (v : Int32) (w : Int), r = some (.int v) ∧ okH rI0 (gup g 2 w) ρ h'.1 ∧ okFr ρ [0, 14, 15, 24, 25, 26] h h' ∧ ((1 ≤ x.toInt ∧ x.toInt ≤ 40 ∧ g 2 + x.toInt ≤ 2000 ∧ v.toInt = g 2 + x.toInt ∧ w = g 2 + x.toInt) ∨ (¬ (1 ≤ x.toInt ∧ x.toInt ≤ 40 ∧ g 2 + x.toInt ≤ 2000) ∧ v = -1 ∧ w = g 2))) := by
  have e0 : (0 : Int32).toInt = 0 := by decide
  have e1 : (1 : Int32).toInt = 1 := by decide
  have e40 : (40 : Int32).toInt = 40 := by decide
  have e2000 : (2000 : Int32).toInt = 2000 := by decide
  have hgp := hg 2 (0, 2000) rfl
  have hgp : 0 ≤ g 2 ∧ g 2 ≤ 2000 := hgp
  obtain ⟨fs, c1, c2, c3⟩ := fld hH hm rO_eq
  obtain ⟨v1, d1, a, rfl, d2⟩ := c3 12 (1, 2, 0) rfl
  have d2 : a.toInt = g 2 + 0 := d2
  have hall2 : CTall ci_early (d + 2) := hall.le (Nat.le_succ _)
  have no : ∀ b : Nat, ¬ (1 ≤ x.toInt ∧ x.toInt ≤ 40 ∧ g 2 + x.toInt ≤ 2000) → mE (mcall (d + 2)) none 3 (mgd 58 mtX10_week) (b + 2) (22, [(0, .ref m), (1, .int x)], [], h) (fun r h' => mretok (some .int) r = true ∧ ∃ (v : Int32) (w : Int), r = some (.int v) ∧ okH rI0 (gup g 2 w) ρ h'.1 ∧ okFr ρ [0, 14, 15, 24, 25, 26] h h' ∧ ((1 ≤ x.toInt ∧ x.toInt ≤ 40 ∧ g 2 + x.toInt ≤ 2000 ∧ v.toInt = g 2 + x.toInt ∧ w = g 2 + x.toInt) ∨ (¬ (1 ≤ x.toInt ∧ x.toInt ≤ 40 ∧ g 2 + x.toInt ≤ 2000) ∧ v = -1 ∧ w = g 2))) := by
    intro b hn
    refine mE_ico 23 (-1) rfl rfl rfl ?_
    exact mE_iret rfl ⟨rfl, -1, g 2, rfl, by rw [gup_same]; exact hH, okFr.rfl, Or.inr ⟨hn, rfl, rfl⟩⟩
  -- the loop
  have key : (1 ≤ x.toInt ∧ x.toInt ≤ 40 ∧ g 2 + x.toInt ≤ 2000) → ∀ (k : Nat) (h2 : mS) (lv : mL) (i : Int32), 0 ≤ i.toInt → i.toInt + k = x.toInt → okH rI0 (gup g 2 (g 2 + i.toInt)) ρ h2.1 → okFr ρ [0, 14, 15, 24, 25, 26] h h2 → mget lv 0 = some (.ref m) → mget lv 1 = some (.int x) → mget lv 2 = some (.int i) → (∀ q ∈ lv, mone q.2 = true) → mE (mcall (d + 2)) none 3 (mgd 58 mtX10_week) (60 * k + 60) (26, lv, [], h2) (fun r h' => mretok (some .int) r = true ∧ ∃ (v : Int32) (w : Int), r = some (.int v) ∧ okH rI0 (gup g 2 w) ρ h'.1 ∧ okFr ρ [0, 14, 15, 24, 25, 26] h h' ∧ ((1 ≤ x.toInt ∧ x.toInt ≤ 40 ∧ g 2 + x.toInt ≤ 2000 ∧ v.toInt = g 2 + x.toInt ∧ w = g 2 + x.toInt) ∨ (¬ (1 ≤ x.toInt ∧ x.toInt ≤ 40 ∧ g 2 + x.toInt ≤ 2000) ∧ v = -1 ∧ w = g 2))) := by
    intro hx k
    induction k with
    | zero =>
      intro h2 lv i i0 ik hH2 hF2 g0 g1 g2 g3
      refine mE_ildn 27 rfl g2 rfl rfl ?_
      refine mE_ildn 28 rfl g1 rfl rfl ?_
      refine mE_ic_ge_t 53 rfl (Int32.le_iff_toInt_le.mpr (by omega)) rfl ?_
      obtain ⟨fs2, c4, -, c5⟩ := fld hH2 hm rO_eq
      obtain ⟨v2, d3, a2, rfl, d4⟩ := c5 12 (1, 2, 0) rfl
      have d4 : a2.toInt = gup g 2 (g 2 + i.toInt) 2 + 0 := d4
      rw [gup_self] at d4
      refine mE_aldn (53 + 1) rfl g0 rfl rfl ?_
      refine mE_gf (53 + 4) rfl rfl c4 d3 rfl ?_
      exact mE_iret rfl ⟨rfl, a2, g 2 + i.toInt, rfl, hH2, hF2, Or.inl ⟨hx.1, hx.2.1, hx.2.2, by omega, by omega⟩⟩
    | succ k ih =>
      intro h2 lv i i0 ik hH2 hF2 g0 g1 g2 g3
      have hgi : okG aBl (gup g 2 (g 2 + i.toInt)) := okG_up hg rfl (by show 0 ≤ g 2 + i.toInt; omega) (by show g 2 + i.toInt ≤ 2000; omega)
      have i1 : (i + 1).toInt = i.toInt + 1 := by rw [add_id (by omega) (by omega), e1]
      refine mE_ildn 27 rfl g2 rfl rfl ?_
      refine mE_ildn 28 rfl g1 rfl rfl ?_
      refine mE_ic_ge_f 31 rfl (fun q => by have := Int32.le_iff_toInt_le.mp q; omega) rfl ?_
      refine mE_aldn 32 rfl g0 rfl rfl ?_
      refine p_call0 (hall2 ci_OpenFields_growStrips _ rfl : CT rI0 aBl (d + 2) (88, [(3, ((0 : Nat) : Int), 0)], [], none, [26])) hgi hH2 hm rO_eq (by omega) rfl rfl (fun h3 hH3 hF3 => ?_)
      refine mE_aldn 36 rfl g0 rfl rfl ?_
      refine p_call0 (hall2 ci_OpenFields_grazeHerd _ rfl : CT rI0 aBl (d + 2) (89, [(3, ((0 : Nat) : Int), 0)], [], none, [0, 14, 15, 25, 26])) hgi hH3 hm rO_eq (by omega) rfl rfl (fun h4 hH4 hF4 => ?_)
      refine mE_aldn 40 rfl g0 rfl rfl ?_
      refine p_call0 (hall2 ci_OpenFields_eatFromBarns _ rfl : CT rI0 aBl (d + 2) (91, [(3, ((0 : Nat) : Int), 0)], [], none, [25])) hgi hH4 hm rO_eq (by omega) rfl rfl (fun h5 hH5 hF5 => ?_)
      refine mE_aldn 44 rfl g0 rfl rfl ?_
      obtain ⟨fs5, c6, -, -⟩ := fld hH5 hm rO_eq
      refine mE_cv [] [] rfl rfl rfl rfl c6 rfl ?_
      obtain ⟨r, h6, k1, rfl, k2, k3⟩ := r_beginWeek hall hgi hH5 hm (by rw [gup_self]; omega)
      rw [gup_self, gup_gup, Int.add_assoc, ← i1] at k2
      refine ⟨_, _, k1, ?_⟩
      refine mE_iinc 50 (i + 1) _ rfl g2 rfl rfl rfl rfl ?_
      refine mE_goto 26 rfl rfl ?_
      exact mE_le (ih h6 _ (i + 1) (by omega) (by omega) k2 ((((hF2.trans (hF3.mono rfl)).trans (hF4.mono rfl)).trans (hF5.mono rfl)).trans (k3.mono rfl)) (by rw [mget_put lv 2 0 _ (by decide) g3]; exact g0) (by rw [mget_put lv 2 1 _ (by decide) g3]; exact g1) (mget_put_self _ _ _) (mput_mone g3 rfl)) (by omega)
  refine mR_ix [(0, .ref m), (1, .int x)] rfl rfl rfl ?_
  refine mE_ildn 1 rfl rfl rfl rfl ?_
  refine mE_ico 2 1 rfl rfl rfl ?_
  refine mE_bip 4 40 rfl rfl rfl ?_
  refine mE_cs [.int x, .int 1, .int 40] [] rfl rfl rfl rfl rfl ?_
  obtain ⟨r, h', k1, rfl, rfl⟩ := r_within (d + 1) x 1 40 h
  refine ⟨_, _, k1, ?_⟩
  have hiff : (1 ≤ x ∧ x ≤ 40) ↔ (1 ≤ x.toInt ∧ x.toInt ≤ 40) := by rw [Int32.le_iff_toInt_le, Int32.le_iff_toInt_le, e1, e40]
  refine mE_if_eq rfl (fun hx => ?_) (fun hx => ?_)
  · have hx := bit0_iff.mp hx
    exact mE_le (no 0 (fun q => hx (hiff.mpr ⟨q.1, q.2.1⟩))) (Nat.le_of_ble_eq_true rfl)
  · have hx := hiff.mp (Classical.not_not.mp (fun q => hx (bit0_iff.mpr q)))
    have s1 : (a + x).toInt = a.toInt + x.toInt := add_id (by omega) (by omega)
    refine mE_aldn 11 rfl rfl rfl rfl ?_
    refine mE_gf 14 rfl rfl c1 d1 rfl ?_
    refine mE_ildn 15 rfl rfl rfl rfl ?_
    refine mE_iadd 16 (a + x) rfl rfl rfl ?_
    refine mE_sip 19 2000 rfl rfl rfl ?_
    refine mE_ic_le rfl (fun hy => ?_) (fun hy => ?_)
    · have hy := Int32.le_iff_toInt_le.mp hy
      refine mE_ico 25 0 rfl rfl rfl ?_
      refine mE_istn 26 [(2, .int 0), (0, .ref m), (1, .int x)] rfl rfl rfl rfl ?_
      refine mE_le (key ⟨hx.1, hx.2, by omega⟩ x.toInt.toNat _ _ 0 (by omega) (by rw [e0]; omega) (by rw [e0, Int.add_zero, gup_same]; exact hH) okFr.rfl rfl rfl rfl (lvall _ rfl)) (by show _ ≤ 999999999987; omega)
    · refine mE_le (no 0 (fun q => hy (Int32.le_iff_toInt_le.mpr (by omega)))) (Nat.le_of_ble_eq_true rfl)
theorem okFr_setw {ρ md : List Nat} {h : mS} {k : Nat} {c : mC} {x x' : Int32} (hk : ρ[k]? = some 30) (hr : 30 ∈ md) (uq : ∀ k' : Nat, ρ[k']? = some 30 → k' = k) (h0 : (h.1[k]?).bind wkC = some x) (h1 : wkC c = some x') (hx : x.toInt ≤ x'.toInt) : okFr ρ md h (h.1.set k c, h.2) := by
  have hl : k < h.1.length := by
    rcases Nat.lt_or_ge k h.1.length with q | q
    · exact q
    · rw [List.getElem?_eq_none q] at h0
      cases h0
  have hne : ∀ k2 r2 : Nat, ρ[k2]? = some r2 → r2 ≠ 30 → k ≠ k2 := fun k2 r2 e1 e2 e3 => by
    subst e3
    rw [hk] at e1
    cases e1
    exact e2 rfl
  refine ⟨fun k2 r2 e1 e2 => List.getElem?_set_ne (hne k2 r2 e1 (fun e => e2 (by rw [e]; exact hr))), rfl, Or.inr ?_⟩
  intro kT kN kW kM T N W y r1 r2 r3 r4 e1 e2 e3 e4
  have := uq kM r4
  subst this
  rw [h0] at e4
  cases e4
  refine ⟨T, N, x', (List.getElem?_set_ne (hne _ _ r1 (by decide))).trans e1, (List.getElem?_set_ne (hne _ _ r2 (by decide))).trans e2, (List.getElem?_set_ne (hne _ _ r3 (by decide))).trans e3, ?_, hx, fun _ _ => rrq_same⟩
  show ((h.1.set kM c)[kM]?).bind wkC = some x'
  rw [List.getElem?_set_self hl]
  exact h1
set_option maxRecDepth 10000 in
set_option maxHeartbeats 1000000 in
theorem t_Mweek {d : Nat} (hall : CTall ci_all (d + 1)) {g : Nat → Int} {ρ : List Nat} {m : Nat} {x : Int32} {h : mS} (hg : okG aBl g) (hH : okH rI0 g ρ h.1) (hm : ρ[m]? = some 30) : mR (d + 3) 141 [.ref m, .int x] h (fun r h' => ∃ (v : Int32) (w : Int), r = some (.int v) ∧ okH rI0 (gup g 12 w) ρ h'.1 ∧ okFr ρ [30, 32, 35, 36, 42, 43, 44, 45, 46, 51, 52] h h' ∧ ((1 ≤ x.toInt ∧ x.toInt ≤ 40 ∧ g 12 + x.toInt ≤ 2000 ∧ v.toInt = g 12 + x.toInt ∧ w = g 12 + x.toInt) ∨ (¬ (1 ≤ x.toInt ∧ x.toInt ≤ 40 ∧ g 12 + x.toInt ≤ 2000) ∧ v = -1 ∧ w = g 12))) := by
  have e0 : (0 : Int32).toInt = 0 := by decide
  have e1 : (1 : Int32).toInt = 1 := by decide
  have e40 : (40 : Int32).toInt = 40 := by decide
  have e2000 : (2000 : Int32).toInt = 2000 := by decide
  have hgp := hg 12 (0, 2000) rfl
  have hgp : 0 ≤ g 12 ∧ g 12 ≤ 2000 := hgp
  obtain ⟨fs, c1, c2, c3⟩ := fld hH hm rM_eq
  obtain ⟨v1, d1, a, rfl, d2⟩ := c3 0 (1, 12, 0) rfl
  have d2 : a.toInt = g 12 + 0 := d2
  have hall2 : CTall ci_all (d + 2) := hall.le (Nat.le_succ _)
  have no : ∀ b : Nat, ¬ (1 ≤ x.toInt ∧ x.toInt ≤ 40 ∧ g 12 + x.toInt ≤ 2000) → mE (mcall (d + 2)) none 3 (mgd 78 mtX11_week) (b + 2) (22, [(0, .ref m), (1, .int x)], [], h) (fun r h' => mretok (some .int) r = true ∧ ∃ (v : Int32) (w : Int), r = some (.int v) ∧ okH rI0 (gup g 12 w) ρ h'.1 ∧ okFr ρ [30, 32, 35, 36, 42, 43, 44, 45, 46, 51, 52] h h' ∧ ((1 ≤ x.toInt ∧ x.toInt ≤ 40 ∧ g 12 + x.toInt ≤ 2000 ∧ v.toInt = g 12 + x.toInt ∧ w = g 12 + x.toInt) ∨ (¬ (1 ≤ x.toInt ∧ x.toInt ≤ 40 ∧ g 12 + x.toInt ≤ 2000) ∧ v = -1 ∧ w = g 12))) := by
    intro b hn
    refine mE_ico 23 (-1) rfl rfl rfl ?_
    exact mE_iret rfl ⟨rfl, -1, g 12, rfl, by rw [gup_same]; exact hH, okFr.rfl, Or.inr ⟨hn, rfl, rfl⟩⟩
  -- the loop
  have key : (1 ≤ x.toInt ∧ x.toInt ≤ 40 ∧ g 12 + x.toInt ≤ 2000) → ∀ (k : Nat) (h2 : mS) (lv : mL) (i : Int32), 0 ≤ i.toInt → i.toInt + k = x.toInt → okH rI0 (gup g 12 (g 12 + i.toInt)) ρ h2.1 → okFr ρ [30, 32, 35, 36, 42, 43, 44, 45, 46, 51, 52] h h2 → mget lv 0 = some (.ref m) → mget lv 1 = some (.int x) → mget lv 2 = some (.int i) → (∀ q ∈ lv, mone q.2 = true) → mE (mcall (d + 2)) none 3 (mgd 78 mtX11_week) (60 * k + 60) (26, lv, [], h2) (fun r h' => mretok (some .int) r = true ∧ ∃ (v : Int32) (w : Int), r = some (.int v) ∧ okH rI0 (gup g 12 w) ρ h'.1 ∧ okFr ρ [30, 32, 35, 36, 42, 43, 44, 45, 46, 51, 52] h h' ∧ ((1 ≤ x.toInt ∧ x.toInt ≤ 40 ∧ g 12 + x.toInt ≤ 2000 ∧ v.toInt = g 12 + x.toInt ∧ w = g 12 + x.toInt) ∨ (¬ (1 ≤ x.toInt ∧ x.toInt ≤ 40 ∧ g 12 + x.toInt ≤ 2000) ∧ v = -1 ∧ w = g 12))) := by
    intro hx k
    induction k with
    | zero =>
      intro h2 lv i i0 ik hH2 hF2 g0 g1 g2 g3
      refine mE_ildn 27 rfl g2 rfl rfl ?_
      refine mE_ildn 28 rfl g1 rfl rfl ?_
      refine mE_ic_ge_t 73 rfl (Int32.le_iff_toInt_le.mpr (by omega)) rfl ?_
      obtain ⟨fs2, c4, -, c5⟩ := fld hH2 hm rM_eq
      obtain ⟨v2, d3, a2, rfl, d4⟩ := c5 0 (1, 12, 0) rfl
      have d4 : a2.toInt = gup g 12 (g 12 + i.toInt) 12 + 0 := d4
      rw [gup_self] at d4
      refine mE_aldn (73 + 1) rfl g0 rfl rfl ?_
      refine mE_gf (73 + 4) rfl rfl c4 d3 rfl ?_
      exact mE_iret rfl ⟨rfl, a2, g 12 + i.toInt, rfl, hH2, hF2, Or.inl ⟨hx.1, hx.2.1, hx.2.2, by omega, by omega⟩⟩
    | succ k ih =>
      intro h2 lv i i0 ik hH2 hF2 g0 g1 g2 g3
      have hgi : okG aBl (gup g 12 (g 12 + i.toInt)) := okG_up hg rfl (by show 0 ≤ g 12 + i.toInt; omega) (by show g 12 + i.toInt ≤ 2000; omega)
      have i1 : (i + 1).toInt = i.toInt + 1 := by rw [add_id (by omega) (by omega), e1]
      refine mE_ildn 27 rfl g2 rfl rfl ?_
      refine mE_ildn 28 rfl g1 rfl rfl ?_
      refine mE_ic_ge_f 31 rfl (fun q => by have := Int32.le_iff_toInt_le.mp q; omega) rfl ?_
      refine mE_aldn 32 rfl g0 rfl rfl ?_
      refine p_call0 (hall2 ci_M_grow _ rfl : CT rI0 aBl (d + 2) (136, [(3, ((30 : Nat) : Int), 0)], [], none, [42, 46])) hgi hH2 hm rM_eq (by omega) rfl rfl (fun h3 hH3 hF3 => ?_)
      refine mE_aldn 36 rfl g0 rfl rfl ?_
      refine p_call0 (hall2 ci_M_herd _ rfl : CT rI0 aBl (d + 2) (138, [(3, ((30 : Nat) : Int), 0)], [], none, [30, 35, 42, 43, 51, 52])) hgi hH3 hm rM_eq (by omega) rfl rfl (fun h4 hH4 hF4 => ?_)
      refine mE_aldn 40 rfl g0 rfl rfl ?_
      refine p_call0 (hall2 ci_M_eat _ rfl : CT rI0 aBl (d + 2) (139, [(3, ((30 : Nat) : Int), 0)], [], none, [32, 36])) hgi hH4 hm rM_eq (by omega) rfl rfl (fun h5 hH5 hF5 => ?_)
      obtain ⟨fs5, c6, c7, c8⟩ := fld hH5 hm rM_eq
      obtain ⟨v5, d5, a5, rfl, d6⟩ := c8 0 (1, 12, 0) rfl
      have d6 : a5.toInt = gup g 12 (g 12 + i.toInt) 12 + 0 := d6
      rw [gup_self] at d6
      have d7 : (a5 + 1).toInt = a5.toInt + 1 := by rw [add_id (by omega) (by omega), e1]
      have hl5 : 0 < fs5.length := (List.getElem?_eq_some_iff.mp d5).1
      have hlm : m < h5.1.length := (List.getElem?_eq_some_iff.mp c6).1
      refine mE_aldn 44 rfl g0 rfl rfl ?_
      refine mE_dup 45 rfl rfl rfl ?_
      refine mE_gf 48 rfl rfl c6 d5 rfl ?_
      refine mE_ico 49 1 rfl rfl rfl ?_
      refine mE_iadd 50 (a5 + 1) rfl rfl rfl ?_
      refine mE_pf 53 rfl c6 (by show (true && Nat.blt 0 fs5.length) = true; rw [Nat.blt_eq.mpr hl5]; rfl) rfl ?_
      have hH6 : okH rI0 (gup g 12 (g 12 + (i + 1).toInt)) ρ (h5.1.set m (.inr (11, fs5.set 0 (.int (a5 + 1))))) := by
        have := okH_pset1 (w := g 12 + (i + 1).toInt) sp12 (by decide) hH5 hm rM_eq (j := 0) rfl rfl c6 (x := a5 + 1) (by omega)
        rw [gup_gup] at this
        exact this
      have hF6 : okFr ρ [30, 32, 35, 36, 42, 43, 44, 45, 46, 51, 52] h (h5.1.set m (.inr (11, fs5.set 0 (.int (a5 + 1)))), h5.2) := (((hF2.trans (hF3.mono rfl)).trans (hF4.mono rfl)).trans (hF5.mono rfl)).trans (okFr_setw hm (by decide) (fun k' hk' => one_of hH5 hk' hm (by decide)) (show (h5.1[m]?).bind wkC = some a5 by rw [c6]; show wkV fs5[0]? = _; rw [d5]; rfl) (show wkV (fs5.set 0 (.int (a5 + 1)))[0]? = some (a5 + 1) by rw [List.getElem?_set_self hl5]; rfl) (by omega))
      have hg6 : okG aBl (gup g 12 (g 12 + (i + 1).toInt)) := okG_up hg rfl (by show 0 ≤ g 12 + (i + 1).toInt; omega) (by show g 12 + (i + 1).toInt ≤ 2000; omega)
      have j67 : ∀ h7 : mS, okH rI0 (gup g 12 (g 12 + (i + 1).toInt)) ρ h7.1 → okFr ρ [30, 32, 35, 36, 42, 43, 44, 45, 46, 51, 52] h h7 → mE (mcall (d + 2)) none 3 (mgd 78 mtX11_week) (60 * k + 60 + 2) (67, lv, [], h7) (fun r h' => mretok (some .int) r = true ∧ ∃ (v : Int32) (w : Int), r = some (.int v) ∧ okH rI0 (gup g 12 w) ρ h'.1 ∧ okFr ρ [30, 32, 35, 36, 42, 43, 44, 45, 46, 51, 52] h h' ∧ ((1 ≤ x.toInt ∧ x.toInt ≤ 40 ∧ g 12 + x.toInt ≤ 2000 ∧ v.toInt = g 12 + x.toInt ∧ w = g 12 + x.toInt) ∨ (¬ (1 ≤ x.toInt ∧ x.toInt ≤ 40 ∧ g 12 + x.toInt ≤ 2000) ∧ v = -1 ∧ w = g 12))) := by
        intro h7 hH7 hF7
        refine mE_iinc 70 (i + 1) _ rfl g2 rfl rfl rfl rfl ?_
        refine mE_goto 26 rfl rfl ?_
        exact ih h7 _ (i + 1) (by omega) (by omega) hH7 hF7 (by rw [mget_put lv 2 0 _ (by decide) g3]; exact g0) (by rw [mget_put lv 2 1 _ (by decide) g3]; exact g1) (mget_put_self _ _ _) (mput_mone g3 rfl)
      refine mE_aldn 54 rfl g0 rfl rfl ?_
      refine mE_gf 57 rfl rfl (List.getElem?_set_self hlm) (List.getElem?_set_self hl5) rfl ?_
      refine mE_bip 59 20 rfl rfl rfl ?_
      refine mE_irem 60 _ rfl (by decide) rfl rfl ?_
      refine mE_if_ne rfl (fun _ => ?_) (fun _ => ?_)
      · exact mE_le (j67 _ hH6 hF6) (by omega)
      · refine mE_aldn 64 rfl g0 rfl rfl ?_
        refine p_call0 (hall2 ci_M_beginYear _ rfl : CT rI0 aBl (d + 2) (140, [(3, ((30 : Nat) : Int), 0)], [], none, [30, 44, 45])) hg6 hH6 hm rM_eq (by omega) rfl rfl (fun h8 hH8 hF8 => ?_)
        exact mE_le (j67 _ hH8 (hF6.trans (hF8.mono rfl))) (by omega)
  refine mR_ix [(0, .ref m), (1, .int x)] rfl rfl rfl ?_
  refine mE_ildn 1 rfl rfl rfl rfl ?_
  refine mE_ico 2 1 rfl rfl rfl ?_
  refine mE_bip 4 40 rfl rfl rfl ?_
  refine mE_cs [.int x, .int 1, .int 40] [] rfl rfl rfl rfl rfl ?_
  obtain ⟨r, h', k1, rfl, rfl⟩ := r_Mwithin (d + 1) x 1 40 h
  refine ⟨_, _, k1, ?_⟩
  have hiff : (1 ≤ x ∧ x ≤ 40) ↔ (1 ≤ x.toInt ∧ x.toInt ≤ 40) := by rw [Int32.le_iff_toInt_le, Int32.le_iff_toInt_le, e1, e40]
  refine mE_if_eq rfl (fun hx => ?_) (fun hx => ?_)
  · have hx := bit0_iff.mp hx
    exact mE_le (no 0 (fun q => hx (hiff.mpr ⟨q.1, q.2.1⟩))) (Nat.le_of_ble_eq_true rfl)
  · have hx := hiff.mp (Classical.not_not.mp (fun q => hx (bit0_iff.mpr q)))
    have s1 : (a + x).toInt = a.toInt + x.toInt := add_id (by omega) (by omega)
    refine mE_aldn 11 rfl rfl rfl rfl ?_
    refine mE_gf 14 rfl rfl c1 d1 rfl ?_
    refine mE_ildn 15 rfl rfl rfl rfl ?_
    refine mE_iadd 16 (a + x) rfl rfl rfl ?_
    refine mE_sip 19 2000 rfl rfl rfl ?_
    refine mE_ic_le rfl (fun hy => ?_) (fun hy => ?_)
    · have hy := Int32.le_iff_toInt_le.mp hy
      refine mE_ico 25 0 rfl rfl rfl ?_
      refine mE_istn 26 [(2, .int 0), (0, .ref m), (1, .int x)] rfl rfl rfl rfl ?_
      refine mE_le (key ⟨hx.1, hx.2, by omega⟩ x.toInt.toNat _ _ 0 (by omega) (by rw [e0]; omega) (by rw [e0, Int.add_zero, gup_same]; exact hH) okFr.rfl rfl rfl rfl (lvall _ rfl)) (by show _ ≤ 999999999987; omega)
    · refine mE_le (no 0 (fun q => hy (Int32.le_iff_toInt_le.mpr (by omega)))) (Nat.le_of_ble_eq_true rfl)
