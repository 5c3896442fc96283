/-! the text of law 1 that is in force, on both sides -/
set_option maxHeartbeats 1000000 in
theorem law1_text {i : Nat} {g : Nat → Int} {ρ : List Nat} {h : mS} (hI : Inv i g ρ h) (hB : JB h.1) (h5 : J5 h.1) : ∃ (t yb : Nat) (wt fr sz ct : Int32) (st P s : List Int32) (T N W : List Int32), t ∈ T7 ∧ h.1[5]? = some (.inl (5, .inr [some 26, some 33, some 40])) ∧ h.1[33]? = some (lwC t yb wt fr) ∧ (h.1[t]? = some (.inr (9, [.ref (t + 1), .ref (t + 2), .int sz, .int ct])) ∧ h.1[t + 2]? = some (cAr st) ∧ st.length = 60) ∧ (ct.toInt = P.length ∧ st.take P.length = P ∧ s.length ≤ 60) ∧ mlH h.1 T N W ∧ (∀ T1 N1, cfR (g 12) 1 T N W T1 N1 → (∃ n : Int32, N1[2]? = some n ∧ n.toInt = s.length) ∧ ∀ j : Nat, j < s.length → T1[120 + j]? = s[j]?) ∧ ∀ ν νi : Int32 → Int32, (∀ b, ¬ midx b < 0 → νi (midx b) = ν b) → pRun νi P [] = [(eAt ν 13 s).1] ∧ fAt ν 13 s := by
  obtain ⟨i1, i2, i3, i4, i5, i7, i9, i10, i11, i12, i13⟩ := id hI
  obtain ⟨-, A, B, WT, FR, kd, T, N, W, nw, ⟨j1, j2, j3, j4, j5⟩, ⟨j6, j7⟩, j8⟩ := hB
  have hnw : nw.toInt = g 12 := by
    obtain ⟨fC, nwC, b1, ⟨-, -, -, b2⟩, hnw⟩ := cx_C i1 i13
    obtain ⟨f0', y1', y2'⟩ := id j5
    rw [b1] at y1'
    cases y1'
    rw [b2] at y2'
    cases y2'
    omega
  obtain ⟨⟨kd', hk', hd', hT⟩, N9, n1, n2⟩ := h5
  have := drf_uni hd' j3
  subst this
  rw [j4.2.1] at n1
  cases n1
  have hA1 := (j6.2 1 (by decide)).1.1
  have hAk := (j6.2 1 (by decide)).2.1.2.1
  obtain ⟨sz, ct, bs, st, t1, t2, t3, t4, t5⟩ := hT (A 1) hA1 hAk
  -- the class's text is the reference's
  have key : ∀ T1 N1, cfR (g 12) 1 T N W T1 N1 → N1[2]? = some sz ∧ (0 < sz.toInt ∧ sz.toInt ≤ 60) ∧ ∀ j : Nat, (j : Int) < sz.toInt → bs[j]? = T1[120 + j]? := by
    intro T1 N1 hcf
    obtain ⟨m0, m1, u, z0, z1, z2, ⟨rr0, rr1⟩, c⟩ := j8 1 (by decide)
    obtain ⟨n', u', y1, y2, y3⟩ := hcf
    rw [z1] at y1
    cases y1
    rw [z2] at y2
    cases y2
    obtain ⟨m9, w1, w2⟩ := n2 1 (by decide)
    rw [z0] at w1
    cases w1
    have uni : ∀ (s2 : Int32) (b2 : List Int32), Tx h.1 (A 1) s2 b2 → s2 = sz ∧ b2 = bs := fun s2 b2 a => by
      obtain ⟨ct2, a1, a2⟩ := a
      rw [t1] at a1
      rw [t2] at a2
      cases a1
      cases a2
      exact ⟨rfl, rfl⟩
    rcases y3 with ⟨nd, rfl, rfl⟩ | ⟨nd, cp, rfl⟩
    · rcases c with ⟨c1, c2, s2, b2, c3, c4⟩ | ⟨c1, c2, -⟩ | ⟨c1, c2, c3, c4, ⟨s2, b2, c5, c6⟩, -⟩
      · obtain ⟨rfl, rfl⟩ := uni _ _ c3
        obtain ⟨rfl, c7⟩ := c4
        exact ⟨z0, ⟨w2, rr0.2⟩, c7⟩
      · exact absurd ⟨c1, by omega⟩ nd
      · obtain ⟨rfl, rfl⟩ := uni _ _ c5
        obtain ⟨rfl, c7⟩ := c6
        exact ⟨z0, ⟨w2, rr0.2⟩, c7⟩
    · rcases c with ⟨c1, -⟩ | ⟨c1, c2, c3, s2, b2, c4, c5⟩ | ⟨c1, c2, -⟩
      · omega
      · obtain ⟨rfl, rfl⟩ := uni _ _ c4
        obtain ⟨rfl, c7⟩ := c5
        refine ⟨?_, ⟨c1, rr1.2⟩, fun j hj => ?_⟩
        · rw [List.getElem?_set_ne (by decide)]
          exact List.getElem?_set_self (List.getElem?_eq_some_iff.mp z0).1
        · rw [c7 j hj]
          exact (cp.2.1 j (nlt_of hj)).symm
      · omega
  -- a text in force has been read
  have hex : ∃ T1 N1, cfR (g 12) 1 T N W T1 N1 := by
    obtain ⟨r, h', -, -, T1, N1, hcf, -⟩ := r_cifP (d := 0) i1 i13 j4 (q := 1) (by decide) (by decide) (Q := 1) (by decide)
    exact ⟨T1, N1, hcf⟩
  obtain ⟨T0, N0, hcf0⟩ := hex
  obtain ⟨-, ⟨sp, s60⟩, -⟩ := key T0 N0 hcf0
  rcases t5 with t5 | ⟨τ, q1, ⟨q2, q3⟩, q4, q5⟩
  · omega
  have hszc : (sz.toNatClampNeg : Int) = sz.toInt := by
    show ((sz.toInt.toNat : Nat) : Int) = sz.toInt
    omega
  obtain ⟨c11, ez, zs, rfl', lz, -⟩ := i1.at (t7_r i13 hA1).2.1 (R := .inr (.inl (0, 60, -2147483648, 2147483647))) rfl
  have lb : bs.length = 60 := by
    rw [t2] at ez
    cases ez
    cases rfl'
    exact lz
  have hsl : (bs.take sz.toNatClampNeg).length = sz.toNatClampNeg := by rw [List.length_take]; omega
  refine ⟨A 1, B 1, WT 1, FR 1, sz, ct, st, (flsh 1 τ.2.1 τ.2.2).1, bs.take sz.toNatClampNeg, T, N, W, hA1, j2, j1 1 (by decide), ⟨t1, t3, t4⟩, ⟨q4, q5, by omega⟩, j4, fun T1 N1 hcf => ?_, fun ν νi hν => ?_⟩
  · obtain ⟨k1, -, k3⟩ := key T1 N1 hcf
    refine ⟨⟨sz, k1, by omega⟩, fun j hj => ?_⟩
    rw [List.getElem?_take, if_pos (by omega)]
    exact (k3 j (by omega)).symm
  · obtain ⟨τ', p1, p2, p3, p4, p5⟩ := compiled (ν := ν) (νi := νi) hν (s := bs.take sz.toNatClampNeg) ⟨τ, q1, q2, q3⟩
    rw [q1] at p1
    cases p1
    exact ⟨p3, p5⟩
