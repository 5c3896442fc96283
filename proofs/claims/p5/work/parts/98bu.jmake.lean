/-! make: the by-laws of both stay the same -/
theorem fl_pos {n : Int32} {bs : List Int32} (ht : tpOk n bs) (h : flT n bs = -1) : 0 < n.toInt := by
  rcases Int.lt_or_le 0 n.toInt with q | q
  · exact q
  · exfalso
    have hn := ht.1
    have hc : n.toNatClampNeg = 0 := by
      show n.toInt.toNat = 0
      omega
    unfold flT at h
    rw [hc, List.take_zero] at h
    exact absurd h (by decide)
theorem JLq_W {w : Int} {h : List mC} {T N W W' : List Int32} {q a b : Nat} {wt fr : Int32} (e : W'[q]? = W[q]?) (hJ : JLq w h T N W q a b wt fr) : JLq w h T N W' q a b wt fr := by
  obtain ⟨n0, n1, u, e0, e1, e2, r, c⟩ := hJ
  exact ⟨n0, n1, u, e0, e1, e.trans e2, r, c⟩
/-- another kind's laws are left by make of Q -/
theorem mk_oth {w : Int} {Q q : Nat} (hq : q < 3) (hne : q ≠ Q) {T N W T1 N1 T2 cs : List Int32} {n : Int32} {K : Nat} (hc : cfR w Q T N W T1 N1) (ht : ctT T1 Q K cs T2) {w' : Int} : rrq T N W T2 (N1.set (2 * Q + 1) n) w' q := by
  obtain ⟨t1, t2, t3⟩ := ht
  have hN : N1[2 * q]? = N[2 * q]? ∧ N1[2 * q + 1]? = N[2 * q + 1]? := by
    obtain ⟨n', u', -, -, ⟨-, rfl, rfl⟩ | ⟨-, -, rfl⟩⟩ := hc
    · exact ⟨rfl, rfl⟩
    · constructor
      · rw [List.getElem?_set_ne (by omega), List.getElem?_set_ne (by omega)]
      · rw [List.getElem?_set_ne (by omega), List.getElem?_set_ne (by omega)]
  have hT : ∀ i : Nat, (i < 120 * Q ∨ 120 * Q + 60 ≤ i) → T1[i]? = T[i]? := by
    obtain ⟨n', u', -, -, ⟨-, rfl, rfl⟩ | ⟨-, cp, rfl⟩⟩ := hc
    · exact fun _ _ => rfl
    · exact cp.2.2
  refine Or.inl ⟨?_, ?_, fun j hj => ⟨?_, ?_⟩⟩
  · rw [List.getElem?_set_ne (by omega)]
    exact hN.1
  · rw [List.getElem?_set_ne (by omega)]
    exact hN.2
  · rw [t3 _ (by omega)]
    exact hT _ (by omega)
  · rw [t3 _ (by omega)]
    exact hT _ (by omega)
theorem tx_uni {h : List mC} {t : Nat} {sz s2 : Int32} {bs b2 : List Int32} (a : Tx h t sz bs) (b : Tx h t s2 b2) : s2 = sz ∧ b2 = bs := by
  obtain ⟨ct, a1, a2⟩ := a
  obtain ⟨ct', a3, a4⟩ := b
  rw [a1] at a3
  rw [a2] at a4
  cases a3
  cases a4
  exact ⟨rfl, rfl⟩
set_option maxHeartbeats 2000000 in
theorem jb_make (x y : Int32) : bothJ JB 69 124 [.int x, .int y] (fun v1 v2 => v1 = v2) := by
  refine bothJ_add2 (ja_make x y) (i_make x y) ?_
  intro i g ρ h h1 h2 v1 v2 hI hf _ e1 e3 hJA hJ
  obtain ⟨i1, i2, i3, i4, i5, i7, i9, i10, i11, i12, i13⟩ := id hI
  obtain ⟨A, B, WT, FR, kd, T, N, W, nw, ⟨j1, j2, j3, j4, j5⟩, ⟨j6, j7⟩, j8⟩ := hJ
  obtain ⟨jr, n, bs, cs, fs, a1, a2, a3, a4, a5, a6, a7, a8⟩ := hJA
  obtain ⟨tC, tF⟩ := tp_take a6 a7 a8
  obtain ⟨hH1, hF1⟩ := ct_C (hallA (Nat.le_refl _) ci_C_make _ rfl) rfl rfl rfl i4 i1 i2 e1
  obtain ⟨hH2, hF2⟩ := ct_M (hallA (Nat.le_refl _) ci_M_make _ rfl) rfl rfl rfl i4 hH1 i3 e3
  have n47 : h1.1[47]? = some (.inr (11, fs)) := (hF1.1 47 30 i3 (by decide)).trans a4
  have n67 : h1.1[67]? = some (.inl (0, .inl cs)) := (hF1.1 67 50 (at_rho i13 (by decide) rfl) (by decide)).trans a3
  have ml1 : mlH h1.1 T N W := ⟨(hF1.1 68 51 (at_rho i13 (by decide) rfl) (by decide)).trans j4.1, (hF1.1 69 52 (at_rho i13 (by decide) rfl) (by decide)).trans j4.2.1, (hF1.1 70 53 (at_rho i13 (by decide) rfl) (by decide)).trans j4.2.2⟩
  obtain ⟨r1, hA, c1, c2⟩ := q_make (d := 709) (hallE (by omega)) i4 i1 i13 (x := x) (y := y) a6 a1 a2 j1 j2 j6.1 j3 (j7 kd j6.1)
  rw [e1] at c1
  cases c1
  obtain ⟨r2, hB, d1, d2⟩ := q_Mmake (d := 716) (hallE (by omega)) i4 hH1 i13 (x := x) (y := y) tC n47 a5 n67 ml1
  rw [e3] at d1
  cases d1
  rw [← i11] at d2
  have hfk := (mcall_fk fS_12 _ _ _ _ _ _ (elem_mem (show S12.elem 69 = true from rfl)) e1).trans (mcall_fk fS_12 _ _ _ _ _ _ (elem_mem (show S12.elem 124 = true from rfl)) e3)
  have now2 := now_fk j5 hfk
  have hnw : nw.toInt = g 2 := by
    obtain ⟨fC, nwC, b1, ⟨-, -, -, b2⟩, hnw⟩ := cx_C i1 i13
    obtain ⟨f0', y1', y2'⟩ := id j5
    rw [b1] at y1'
    cases y1'
    rw [b2] at y2'
    cases y2'
    exact hnw
  -- the reference leaves the class's cells
  have lwM : ∀ q : Nat, q < 3 → h2.1[26 + 7 * q]? = h1.1[26 + 7 * q]? := fun q hq => hF2.1 _ 24 (at_rho i13 (by omega) (lw_00 q hq)) (by decide)
  have txM : ∀ t ∈ T7, ∀ (sz : Int32) (b2 : List Int32), Tx h1.1 t sz b2 → Tx h2.1 t sz b2 := fun t ht sz b2 a => by
    obtain ⟨ct, z1, z2⟩ := a
    obtain ⟨y1, y2, -⟩ := t7_r i13 ht
    exact ⟨ct, (hF2.1 _ _ y1 (by decide)).trans z1, (hF2.1 _ _ y2 (by decide)).trans z2⟩
  have drM : ∀ k, drf h1.1 k → drf h2.1 k := fun k a => by
    obtain ⟨w, dp, dg, c, wt, mn, e⟩ := a
    exact ⟨w, dp, dg, c, wt, mn, (hF2.1 8 8 (at_rho i13 (by decide) rfl) (by decide)).trans e⟩
  have five : h2.1[5]? = some (.inl (5, .inr [some 26, some 33, some 40])) := (hf 5 5 rfl (by decide)).trans j2
  -- nothing has changed
  have stay : (∀ q : Nat, q < 3 → h1.1[26 + 7 * q]? = h.1[26 + 7 * q]?) → drf h1.1 kd → (∀ t ∈ T7, ∀ (sz : Int32) (b2 : List Int32), Tx h.1 t sz b2 → Tx h1.1 t sz b2) → mlH h2.1 T N W → JL h2.1 := fun s1 s2 s3 s4 => by
    refine ⟨A, B, WT, FR, kd, T, N, W, nw, ⟨fun q hq => (lwM q hq).trans ((s1 q hq).trans (j1 q hq)), five, drM kd s2, s4, now2⟩, ⟨j6, fun t ht => ?_⟩, fun q hq => ?_⟩
    · obtain ⟨sz, b2, a⟩ := j7 t ht
      exact ⟨sz, b2, txM t ht _ _ (s3 t ht _ _ a)⟩
    · exact JLq_step (Int.le_refl _) (j8 q hq) rrq_same (fun sz b2 a => txM _ (DS_mem j6 hq).1 _ _ (s3 _ (DS_mem j6 hq).1 _ _ a)) (fun sz b2 a => txM _ (DS_mem j6 hq).2 _ _ (s3 _ (DS_mem j6 hq).2 _ _ a)) (A q) (B q) (WT q) (by rw [Int.sub_self, rcI_0])
  rcases c2 with ⟨p1, p2⟩ | ⟨p1, Q, hQ, hxQ, p2⟩
  · rcases d2 with ⟨-, q2⟩ | ⟨q1, -⟩
    · exact stay (fun q _ => by rw [p2]) (by rw [p2]; exact j3) (fun t _ sz b2 a => by rw [p2]; exact a) q2
    · exact absurd q1.1 p1
  · rcases p2 with ⟨p3, p4, p5, p6⟩ | ⟨p3, p4, p5, p6, p7, b2, p8, p9⟩
    · rcases d2 with ⟨-, q2⟩ | ⟨q1, -⟩
      · exact stay p4 p5 p6 q2
      · rw [tF] at q1
        exact absurd q1.2 p3
    · rcases d2 with ⟨q1, -⟩ | ⟨-, Q', T1, N1, T2, hQ', hxQ', q3, q4, q5⟩
      · rw [tF] at q1
        exact absurd ⟨p1, p3⟩ q1
      · have hQQ : Q' = Q := by omega
        subst hQQ
        have npos := fl_pos a6 p3
        obtain ⟨t1, t2, t3⟩ := id q4
        obtain ⟨⟨s1, s2⟩, ⟨s3, s4, s5⟩, s6⟩ := j6.2 Q' hQ
        have n60 := a6.2.1
        -- the lengths of Q'
        obtain ⟨n0, n1, u, z0, z1, z2, ⟨rr0, rr1⟩, c⟩ := j8 Q' hQ
        have lN : N.length = 6 := by
          obtain ⟨T9, N9, W9, ⟨m1, m2, m3⟩, ⟨-, lN, -⟩, -⟩ := ml_of i1 i13
          rw [j4.2.1] at m2
          cases m2
          exact lN
        have lW : W.length = 3 := by
          obtain ⟨T9, N9, W9, ⟨m1, m2, m3⟩, ⟨-, -, lW⟩, -⟩ := ml_of i1 i13
          rw [j4.2.2] at m3
          cases m3
          exact lW
        -- what is in force of Q' in both, ahead of the new text
        have cur : ∃ m0 : Int32, N1[2 * Q']? = some m0 ∧ (0 ≤ m0.toInt ∧ m0.toInt ≤ 60) ∧ N1.length = 6 ∧ ∃ sz b3, Tx h.1 (A Q') sz b3 ∧ Tq m0 T2 (120 * Q') sz b3 := by
          obtain ⟨n', u', y1, y2, y3⟩ := q3
          rw [z1] at y1
          cases y1
          rw [z2] at y2
          cases y2
          rcases y3 with ⟨nd, rfl, rfl⟩ | ⟨nd, cp, rfl⟩
          · refine ⟨n0, z0, rr0, lN, ?_⟩
            have go : ∀ sz b3, Tq n0 T1 (120 * Q') sz b3 → Tq n0 T2 (120 * Q') sz b3 := fun sz b3 z => ⟨z.1, fun j hj => by rw [z.2 j hj, t3 _ (by omega)]⟩
            rcases c with ⟨c1, c2, sz, b3, c3, c4⟩ | ⟨c1, c2, -⟩ | ⟨c1, c2, c3, c4, ⟨sz, b3, c5, c6⟩, -⟩
            · exact ⟨sz, b3, c3, go _ _ c4⟩
            · exact absurd ⟨c1, by omega⟩ nd
            · exact ⟨sz, b3, c5, go _ _ c6⟩
          · refine ⟨n1, ?_, rr1, by rw [List.length_set, List.length_set]; exact lN, ?_⟩
            · rw [List.getElem?_set_ne (by omega), List.getElem?_set_self (by omega)]
            · rcases c with ⟨c1, -⟩ | ⟨c1, c2, c3, sz, b3, c4, c5⟩ | ⟨c1, c2, -⟩
              · omega
              · exact ⟨sz, b3, c4, c5.1, fun j hj => by rw [c5.2 j hj, t3 _ (by omega), cp.2.1 j (nlt_of hj)]⟩
              · omega
        obtain ⟨m0, m1, m2, lN1, szA, bA, m3, m4⟩ := cur
        have hN1 : (N1.set (2 * Q' + 1) n)[2 * Q']? = some m0 := (List.getElem?_set_ne (by omega)).trans m1
        have hN2 : (N1.set (2 * Q' + 1) n)[2 * Q' + 1]? = some n := List.getElem?_set_self (by omega)
        have hW2 : (W.set Q' y)[Q']? = some y := List.getElem?_set_self (by omega)
        have tqK : Tq n T2 (120 * Q' + 60) n b2 := ⟨rfl, fun j hj => by rw [p9 j hj, a8 j hj, t2 j (nlt_of hj)]⟩
        have txK : Tx h2.1 kd n b2 := txM kd j6.1 _ _ p8
        have txA : Tx h2.1 (A Q') szA bA := txM _ s1 _ _ (p7 _ s1 s4 _ _ m3)
        have txall : ∀ t ∈ T7, ∃ sz bs, Tx h2.1 t sz bs := fun t ht => by
          by_cases hk : t = kd
          · subst hk
            exact ⟨n, b2, txK⟩
          · obtain ⟨sz, b3, a⟩ := j7 t ht
            exact ⟨sz, b3, txM t ht _ _ (p7 t ht hk _ _ a)⟩
        have oth : ∀ q : Nat, q < 3 → q ≠ Q' → JLq nw.toInt h2.1 T2 (N1.set (2 * Q' + 1) n) (W.set Q' y) q (A q) (B q) (WT q) (FR q) := fun q hq hne => by
          obtain ⟨⟨o1, o2⟩, ⟨o3, o4, o5⟩, -⟩ := j6.2 q hq
          exact JLq_W (List.getElem?_set_ne (fun e => hne e.symm)) (JLq_step (Int.le_refl _) (j8 q hq) (mk_oth hq hne q3 q4) (fun sz b3 a => txM _ o1 _ _ (p7 _ o1 o4 _ _ a)) (fun sz b3 a => txM _ o2 _ _ (p7 _ o2 o5 _ _ a)) (A q) (B q) (WT q) (by rw [Int.sub_self, rcI_0]))
        have dsk : ∀ (a' b' : Nat), ((a' = kd ∧ b' = A Q') ∨ (a' = A Q' ∧ b' = kd)) → DS (fun q => if q = Q' then a' else A q) (fun q => if q = Q' then b' else B q) (B Q') := by
          intro a' b' hab
          have pa : (a' ∈ T7 ∧ b' ∈ T7) ∧ a' ≠ b' ∧ a' ≠ B Q' ∧ b' ≠ B Q' := by
            rcases hab with ⟨rfl, rfl⟩ | ⟨rfl, rfl⟩
            · exact ⟨⟨j6.1, s1⟩, fun e => s4 e.symm, fun e => s5 e.symm, s3⟩
            · exact ⟨⟨s1, j6.1⟩, s4, s3, fun e => s5 e.symm⟩
          have po : ∀ p : Nat, p < 3 → p ≠ Q' → (a' ≠ A p ∧ a' ≠ B p) ∧ (b' ≠ A p ∧ b' ≠ B p) ∧ (B Q' ≠ A p ∧ B Q' ≠ B p) := by
            intro p hp hpq
            obtain ⟨-, ⟨-, o4, o5⟩, -⟩ := j6.2 p hp
            obtain ⟨u1, u2, u3, u4⟩ := s6 p hp hpq
            rcases hab with ⟨rfl, rfl⟩ | ⟨rfl, rfl⟩
            · exact ⟨⟨fun e => o4 e.symm, fun e => o5 e.symm⟩, ⟨u1, u2⟩, u3, u4⟩
            · exact ⟨⟨u1, u2⟩, ⟨fun e => o4 e.symm, fun e => o5 e.symm⟩, u3, u4⟩
          refine ⟨s2, fun q hq => ?_⟩
          by_cases hqq : q = Q'
          · subst hqq
            dsimp only
            rw [if_pos rfl, if_pos rfl]
            refine ⟨pa.1, pa.2, fun p hp hpq => ?_⟩
            rw [if_neg hpq, if_neg hpq]
            obtain ⟨⟨v1, v2⟩, ⟨v3, v4⟩, -⟩ := po p hp hpq
            exact ⟨v1, v2, v3, v4⟩
          · dsimp only
            rw [if_neg hqq, if_neg hqq]
            obtain ⟨o1, ⟨o3, -, -⟩, o6⟩ := j6.2 q hq
            obtain ⟨⟨v1, v2⟩, ⟨v3, v4⟩, v5, v6⟩ := po q hq hqq
            refine ⟨o1, ⟨o3, fun e => v5 e.symm, fun e => v6 e.symm⟩, fun p hp hpq => ?_⟩
            by_cases hpp : p = Q'
            · rw [if_pos hpp, if_pos hpp]
              exact ⟨fun e => v1 e.symm, fun e => v3 e.symm, fun e => v2 e.symm, fun e => v4 e.symm⟩
            · rw [if_neg hpp, if_neg hpp]
              exact o6 p hp hpq
        have fin : ∀ (a' b' : Nat) (wt' : Int32), ((a' = kd ∧ b' = A Q') ∨ (a' = A Q' ∧ b' = kd)) → rc (g 2) (A Q') kd 1 y = lwC a' b' wt' y → JLq nw.toInt h2.1 T2 (N1.set (2 * Q' + 1) n) (W.set Q' y) Q' a' b' wt' y → JL h2.1 := by
          intro a' b' wt' hab hrc hjq
          refine ⟨fun q => if q = Q' then a' else A q, fun q => if q = Q' then b' else B q, fun q => if q = Q' then wt' else WT q, fun q => if q = Q' then y else FR q, B Q', T2, _, _, nw, ⟨fun q hq => ?_, five, drM _ p6, q5, now2⟩, ⟨dsk a' b' hab, txall⟩, fun q hq => ?_⟩
          · rw [lwM q hq]
            by_cases hqq : q = Q'
            · subst hqq
              dsimp only
              rw [if_pos rfl, if_pos rfl, if_pos rfl, if_pos rfl, p4, hrc]
            · dsimp only
              rw [if_neg hqq, if_neg hqq, if_neg hqq, if_neg hqq, p5 q hq hqq]
              exact j1 q hq
          · by_cases hqq : q = Q'
            · subst hqq
              dsimp only
              rw [if_pos rfl, if_pos rfl, if_pos rfl, if_pos rfl]
              exact hjq
            · dsimp only
              rw [if_neg hqq, if_neg hqq, if_neg hqq, if_neg hqq]
              exact oth q hq hqq
        by_cases hy : y.toInt ≤ g 2
        · refine fin kd (A Q') 0 (Or.inl ⟨rfl, rfl⟩) (by unfold rc; rw [if_pos ⟨by decide, hy⟩]) ⟨m0, n, y, hN1, hN2, hW2, ⟨m2, by omega, n60⟩, Or.inr (Or.inl ⟨npos, by omega, rfl, n, b2, txK, tqK⟩)⟩
        · refine fin (A Q') kd 1 (Or.inr ⟨rfl, rfl⟩) (by unfold rc; rw [if_neg (fun z => hy z.2)]) ⟨m0, n, y, hN1, hN2, hW2, ⟨m2, by omega, n60⟩, Or.inr (Or.inr ⟨npos, by omega, by decide, rfl, ⟨szA, bA, txA, m4⟩, n, b2, txK, tqK⟩)⟩
