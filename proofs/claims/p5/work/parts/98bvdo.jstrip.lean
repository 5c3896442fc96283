theorem M_fld2 {g : Nat → Int} {ρ : List Nat} {h : List mC} (hH : okH rI0 g ρ h) (hρ : ρ.take 78 = ρ00) : ∃ (fM : List Value) (S : Int32), h[47]? = some (.inr (11, fM)) ∧ (fM[7]? = some (.ref 54) ∧ fM[10]? = some (.ref 56) ∧ fM[11]? = some (.ref 57) ∧ fM[12]? = some (.ref 58) ∧ fM[13]? = some (.ref 59) ∧ fM[15]? = some (.ref 61) ∧ fM[20]? = some (.ref 66)) ∧ fM[21]? = some (.int S) ∧ S.toInt = g 11 := by
  obtain ⟨fM, a1, -, a3⟩ := fld hH (at_rho hρ (k := 47) (r := 30) (by decide) rfl) rM_eq
  have go : ∀ (j k r : Nat), rM[j]? = some (3, (r : Int), 0) → ρ00[k]? = some r → k < 78 → grp r ≠ 0 → fM[j]? = some (.ref k) := by
    intro j k r q1 q2 q3 q4
    obtain ⟨v, b1, k1, rfl, b2⟩ := a3 j (3, (r : Int), 0) q1
    have b3 : k1 = k := one_of hH (show ρ[k1]? = some r from b2) (at_rho hρ q3 q2) q4
    rw [b1, b3]
  obtain ⟨v, e1, S, rfl, e2⟩ := a3 21 (1, 11, 0) rfl
  have e2 : S.toInt = g 11 + 0 := e2
  exact ⟨fM, S, a1, ⟨go 7 54 37 rfl rfl (by decide) (by decide), go 10 56 39 rfl rfl (by decide) (by decide), go 11 57 40 rfl rfl (by decide) (by decide), go 12 58 41 rfl rfl (by decide) (by decide), go 13 59 42 rfl rfl (by decide) (by decide), go 15 61 44 rfl rfl (by decide) (by decide), go 20 66 49 rfl rfl (by decide) (by decide)⟩, e1, by omega⟩
theorem cnt_set {OW : List Int32} {S : Nat} {z : Int32} (hl : S < OW.length) (k : Int32) : cntS (OW.set S z) (S + 1) k = cntS OW S k + if z = k then 1 else 0 := by
  rw [cntS_s (List.getElem?_set_self hl)]
  unfold cntS
  rw [List.take_set_of_le (Nat.le_refl _)]
theorem i32n {k : Nat} (hk : k < 100) : (Int32.ofNat k).toInt = k := by
  rw [Int32.toInt_ofNat_of_lt (by omega)]
set_option maxHeartbeats 1000000 in
theorem jp_strip (x y z : Int32) : bothJ JP 59 129 [.int x, .int y, .int z] (fun v1 v2 => v1 = v2) := by
  refine bothJ_add2 (jc_strip x y z) (i_strip x y z) ?_
  intro i g ρ h h1 h2 v1 v2 hI hf _ e1 e3 _ hJ
  obtain ⟨i1, i2, i3, i4, i5, i7, i9, i10, i11, i12, i13⟩ := id hI
  obtain ⟨r, h1', c1, v1', w, ρ', c0, c2, c3, c4, c5⟩ := t_strip (d := 717) (hallE (by omega)) (x := x) (y := y) (z := z) i4 i1 i2
  have c1 : mcall 720 59 [.ref 0, .int x, .int y, .int z] h = some (r, h1') := c1
  rw [e1] at c1
  cases c1
  cases c0
  have g1 := i4 1 (0, 60) rfl
  have g1 : 0 ≤ g 1 ∧ g 1 ≤ 60 := g1
  have g0 := i4 0 (0, 12) rfl
  have g0 : 0 ≤ g 0 ∧ g 0 ≤ 12 := g0
  have hw : 0 ≤ w ∧ w ≤ 60 := by
    rcases c3 with ⟨-, q1, -, q2⟩ | ⟨-, -, -, q2⟩ | ⟨-, -, q2⟩ <;> omega
  have hg1 : okG aBl (gup g 1 w) := okG_up i4 rfl hw.1 hw.2
  have r47 : ρ'[47]? = some 30 := by
    rcases c4 with ⟨-, q, -⟩ | ⟨-, q, -⟩
    · rw [q]; exact i3
    · rw [q]; exact app_at i3
  have r13 : ρ'.take 78 = ρ00 := by
    rcases c4 with ⟨-, q, -⟩ | ⟨-, q, -⟩
    · rw [q]; exact i13
    · rw [q]; exact take_app i13
  obtain ⟨r, h2', m1, v2', w2, m0, m2, m3, m4⟩ := t_Mstrip (d := 718) (hallE (by omega)) (x := x) (y := y) (z := z) hg1 c2 r47
  have m1 : mcall 720 129 [.ref 47, .int x, .int y, .int z] h1 = some (r, h2') := m1
  rw [e3] at m1
  cases m1
  cases m0
  rw [gup_ne (by decide), gup_ne (by decide), ← i9, ← i10] at m3
  obtain ⟨ev, ew⟩ := sWa_fun c3 m3
  subst ew
  subst ev
  -- what both sides hold
  obtain ⟨H, S, qs, BL, OW, ⟨⟨f0, a1, a2⟩, fM, a3, a4⟩, ⟨b1, b2, b3⟩, hk⟩ := id hJ
  obtain ⟨f0', H', w', nm, vs, z1, ⟨z2, z3, z4, z5, z6⟩, ⟨z7, z8⟩, -, -, -⟩ := C_at i1 i13
  rw [a1] at z1
  cases z1
  rw [a2] at z5
  cases z5
  obtain ⟨fM', S', n1, ⟨n7, n10, n11, n12, n13, n15, n20⟩, n21, nS⟩ := M_fld2 i1 i13
  rw [a3] at n1
  cases n1
  rw [a4] at n21
  cases n21
  have k47 : h1.1[47]? = h.1[47]? := c5 47 30 i3 (by decide)
  have k58 : h1.1[58]? = h.1[58]? := c5 58 41 (at_rho i13 (by decide) rfl) (by decide)
  have cc1 : (1 : Int32).toInt = 1 := by decide
  have hS1 : (S + 1).toInt = S.toInt + 1 := by rw [add_id (by omega) (by omega), cc1]
  have wC := w_strip (d := 718) (x := x) (y := y) (z := z) a1 z2 b1 e1
  have wM := w_Mstrip (d := 718) (x := x) (y := y) (z := z) (k47.trans a3) n7 n10 n11 n12 n13 n15 n20 a4 e3
  obtain ⟨fM2, S2, y1, -, y21, yS⟩ := M_fld2 m2 r13
  rw [gup_self] at yS
  rcases c4 with ⟨q1, q2, q3⟩ | ⟨q1, q2, q3⟩
  · -- nothing is added
    rcases wM with ⟨q, -⟩ | ⟨-, ⟨fM3, p1, p2⟩, -⟩
    · rw [q, q3]
      exact hJ
    · exfalso
      rw [y1] at p1
      cases p1
      rw [y21] at p2
      cases p2
      omega
  · -- a strip more
    have hok : sOk (g 0) x y z ∧ v1.toInt = g 1 := by
      rcases c3 with ⟨o1, -, o2, -⟩ | ⟨-, -, -, o2⟩ | ⟨-, -, o2⟩
      · exact ⟨o1, o2⟩
      · omega
      · omega
    obtain ⟨⟨-, -, hz0, hz1⟩, hv⟩ := hok
    rcases wM with ⟨-, v, qv, hv0⟩ | ⟨⟨S0, OW', t1, t2, t3⟩, ⟨fM3, p1, p2⟩, hfc⟩
    · cases qv
      omega
    rw [k58, b3] at t1
    cases t1
    rcases wC with q | ⟨cz, s1, -, s3, s4⟩
    · exfalso
      rw [q] at q3
      omega
    have zn : z.toNatClampNeg = z.toInt.toNat := rfl
    have Sn : S.toNatClampNeg = S.toInt.toNat := rfl
    have hSn : (S + 1).toInt.toNat = S.toNatClampNeg + 1 := by omega
    obtain ⟨f1, u1, u2⟩ := s3 0 10 f0 a1
    obtain ⟨c1', e1', qs', rfl', lq, hq⟩ := i1.at (at_rho i13 (k := 1) (r := 1) (by decide) rfl) (R := .inr (.inr (2, 12, 25, 2))) rfl
    rw [b1] at e1'
    cases e1'
    cases rfl'
    have r25 : ∀ k c : Nat, qs[k]? = some (some c) → ρ[c]? = some 25 := fun k c q => by
      rcases hq k _ q with ⟨q1, -⟩ | ⟨k', q1, q2⟩
      · cases q1
      · cases q1
        exact q2
    have nSc : ∀ k c : Nat, qs[k]? = some (some c) → c ∉ mSc := by
      intro k c q hc
      have r := r25 k c q
      simp only [mSc, List.mem_cons, List.not_mem_nil, or_false] at hc
      rcases hc with rfl | rfl | rfl | rfl | rfl | rfl | rfl | rfl
      · rw [at_rho i13 (k := 47) (r := 30) (by decide) rfl] at r; cases r
      · rw [at_rho i13 (k := 54) (r := 37) (by decide) rfl] at r; cases r
      · rw [at_rho i13 (k := 56) (r := 39) (by decide) rfl] at r; cases r
      · rw [at_rho i13 (k := 57) (r := 40) (by decide) rfl] at r; cases r
      · rw [at_rho i13 (k := 58) (r := 41) (by decide) rfl] at r; cases r
      · rw [at_rho i13 (k := 59) (r := 42) (by decide) rfl] at r; cases r
      · rw [at_rho i13 (k := 61) (r := 44) (by decide) rfl] at r; cases r
      · rw [at_rho i13 (k := 66) (r := 49) (by decide) rfl] at r; cases r
    refine ⟨H, S + 1, qs, BL, OW.set S.toNatClampNeg z, ⟨⟨f1, ?_, (u2 10 rfl).trans a2⟩, fM3, p1, p2⟩, ⟨(hf 1 1 rfl (by decide)).trans b1, (hf 51 34 rfl (by decide)).trans b2, t3⟩, fun k k12 => ⟨fun kH => ?_, fun kH => ?_⟩⟩
    · rw [hfc 0 (by decide)]
      exact u1
    · obtain ⟨c, hf0, b, d1, d2, d3, ⟨d4, d5⟩, d6⟩ := (hk k k12).1 kH
      obtain ⟨hf1, o1, o2⟩ := s3 c 4 hf0 d2
      have A := s4 c hf0 d2
      have A0 : A7 h.1 c = some (.int (Int32.ofNat (cntS OW S.toInt.toNat (Int32.ofNat k)))) := by
        unfold A7
        rw [d2]
        exact d6
      have A1 : A7 h1.1 c = hf1[7]? := by
        unfold A7
        rw [o1]
        rfl
      refine ⟨c, hf1, b, d1, (hfc c (nSc k c d1)).trans o1, (o2 0 rfl).trans d3, ⟨(o2 3 rfl).trans d4, d5⟩, ?_⟩
      rw [← A1, A, hSn, cnt_set t2]
      unfold up7
      by_cases hkz : k = z.toNatClampNeg
      · subst hkz
        rw [d1] at s1
        cases s1
        have ez : z = Int32.ofNat z.toNatClampNeg := Int32.toInt_inj.mp (by rw [i32n (by omega)]; omega)
        rw [if_pos rfl, A0, if_pos ez]
        show some (Value.int (Int32.ofNat _ + 1)) = _
        rw [Int32.ofNat_add]
        rfl
      · have hzk : ¬ z = Int32.ofNat k := fun e => hkz (by
          have := congrArg Int32.toInt e
          rw [i32n (by omega)] at this
          omega)
        have hcz : c ≠ cz := by
          intro e
          subst e
          obtain ⟨c', hf', b', d1', d2', d3', -, -⟩ := (hk z.toNatClampNeg (by omega)).1 (by omega)
          rw [s1] at d1'
          cases d1'
          rw [d2] at d2'
          cases d2'
          rw [d3] at d3'
          have d3' : Int32.ofNat k = Int32.ofNat z.toNatClampNeg := by
            injection d3' with q
            injection q
          have := congrArg Int32.toInt d3'
          rw [i32n (by omega), i32n (by omega)] at this
          omega
        rw [if_neg hcz, A0, if_neg hzk]
        rfl
    · obtain ⟨d1, d2⟩ := (hk k k12).2 kH
      refine ⟨d1, ?_⟩
      have hzk : ¬ z = Int32.ofNat k := fun e => by
        have := congrArg Int32.toInt e
        rw [i32n (by omega)] at this
        omega
      rw [hSn, cnt_set t2, if_neg hzk]
      exact d2
