set_option maxHeartbeats 2000000 in
theorem jp_beasts (x y : Int32) : bothJ JP 61 131 [.int x, .int y] (fun v1 v2 => v1 = v2) := by
  intro i g ρ h hi hI
  obtain ⟨v1, v2, h1, h2, g', ρ', fs9, e1, e2, e3, ⟨e4, e5⟩, -⟩ := jc_beasts x y i g ρ h hi ⟨hI.1, hI.2.1⟩
  obtain ⟨i1, i2, i3, i4, i5, i7, i9, i10, i11, i12, i13⟩ := id hI.1
  obtain ⟨⟨hB, h5⟩, H, S, qs, BL, OW, ⟨⟨f0, a1, a2⟩, fM, a3, a4⟩, ⟨b1, b2, b3⟩, hk⟩ := hI.2
  obtain ⟨f0', H', w, nm, vs, z1, ⟨z2, z3, z4, z5, z6⟩, ⟨z7, z8⟩, ⟨z9, z10, z11⟩, z12, z13⟩ := C_at i1 i13
  rw [a1] at z1
  cases z1
  rw [a2] at z5
  cases z5
  obtain ⟨fM', wM, S', HM, BL', OW', y1, ⟨y2, y3, y4, y5, y6⟩, ⟨y7, y8⟩, ⟨y9, y10, y11⟩, ⟨y12, y13⟩, y14⟩ := M_at i1 i13
  rw [a3] at y1
  cases y1
  rw [a4] at y6
  cases y6
  rw [b2] at y7
  cases y7
  rw [b3] at y8
  cases y8
  have hg0 := i4 0 (0, 12) rfl
  have hg11 := i4 11 (0, 60) rfl
  dsimp only at hg0 hg11
  have hww : wM = w := Int32.toInt_inj.mp (by omega)
  have hHH : HM = H := Int32.toInt_inj.mp (by omega)
  subst hww
  subst hHH
  obtain ⟨t, yb, wt, fr, sz, ct, st, P, s, T, N, W, l1, l2, l3, ⟨l4, l5, l6⟩, ⟨l7, l8, l9⟩, l10, l11, l12⟩ := law1_text hI.1 hB h5
  obtain ⟨hH1, hF1⟩ := ct_C (hallA (Nat.le_refl _) ci_C_beasts _ rfl) rfl rfl rfl i4 i1 i2 e1
  have hSn : S.toInt.toNat = (g 11).toNat := by omega
  obtain ⟨c1', e1', qs', rfl', lq, hq⟩ := i1.at (at_rho i13 (k := 1) (r := 1) (by decide) rfl) (R := .inr (.inr (2, 12, 25, 2))) rfl
  rw [b1] at e1'
  cases e1'
  cases rfl'
  have r25 : ∀ k c : Nat, qs[k]? = some (some c) → ρ[c]? = some 25 := fun k c q => by
    rcases hq k _ q with ⟨q1, -⟩ | ⟨k', q1, q2⟩
    · cases q1
    · cases q1
      exact q2
  have ne25 : ∀ c j r : Nat, ρ[c]? = some 25 → j < 78 → ρ00[j]? = some r → r ≠ 25 → c ≠ j := fun c j r q1 q2 q3 q4 e => by
    subst e
    rw [at_rho i13 q2 q3] at q1
    cases q1
    exact q4 rfl
  obtain ⟨hH2, hF2⟩ := ct_M (hallA (Nat.le_refl _) ci_M_beasts _ rfl) rfl rfl rfl i4 hH1 i3 e3
  have n47 : h1.1[47]? = some (.inr (11, fM)) := (hF1.1 47 30 i3 (by decide)).trans a3
  have n51 : h1.1[51]? = some (cAr BL) := (hF1.1 51 34 (at_rho i13 (by decide) rfl) (by decide)).trans b2
  have n58 : h1.1[58]? = some (cAr OW) := (hF1.1 58 41 (at_rho i13 (by decide) rfl) (by decide)).trans b3
  have n1 : h1.1[1]? = some (.inl (2, .inr qs)) := (hF1.1 1 1 (at_rho i13 (by decide) rfl) (by decide)).trans b1
  have n0 : h1.1[0]? = some (.inr (10, f0)) := (hF1.1 0 0 i2 (by decide)).trans a1
  have m1 : h2.1[1]? = h1.1[1]? := hF2.1 1 1 (at_rho i13 (by decide) rfl) (by decide)
  have m58 : h2.1[58]? = h1.1[58]? := hF2.1 58 41 (at_rho i13 (by decide) rfl) (by decide)
  have ml1 : mlH h1.1 T N W := ⟨(hF1.1 68 51 (at_rho i13 (by decide) rfl) (by decide)).trans l10.1, (hF1.1 69 52 (at_rho i13 (by decide) rfl) (by decide)).trans l10.2.1, (hF1.1 70 53 (at_rho i13 (by decide) rfl) (by decide)).trans l10.2.2⟩
  have fk2 : fk fFH h1.1 h2.1 := mcall_fk fS_H _ _ _ _ _ _ (elem_mem (show SH.elem 131 = true from rfl)) e3
  have same : (∀ j : Nat, j ≠ 14 → j ≠ 15 → h1.1[j]? = h.1[j]?) → JH h1.1 := fun hs => ⟨HM, S, qs, BL, OW, ⟨⟨f0, n0, a2⟩, fM, n47, a4⟩, ⟨n1, n51, n58⟩, fun k hk12 => ⟨fun q => by
    obtain ⟨c, hf, b, p1, p2, p3, p4, p5⟩ := (hk k hk12).1 q
    have hc := r25 k c p1
    exact ⟨c, hf, b, p1, (hs c (ne25 c 14 14 hc (by decide) rfl (by decide)) (ne25 c 15 15 hc (by decide) rfl (by decide))).trans p2, p3, p4, p5⟩, (hk k hk12).2⟩⟩
  -- the house
  by_cases hok : okB HM x y
  · have hx0 := hok.1.1
    have hxH := hok.1.2
    have hxk : Int32.ofNat x.toInt.toNat = x := Int32.toInt_inj.mp (by rw [ofN (by omega)]; omega)
    have hxc : x.toNatClampNeg = x.toInt.toNat := rfl
    obtain ⟨c, hf, b, p1, p2, p3, ⟨p4, p5⟩, p6⟩ := (hk x.toInt.toNat (by omega)).1 (by omega)
    rw [hxk] at p3 p6
    rw [hSn] at p6
    have hc := r25 _ c p1
    have c14 := ne25 c 14 14 hc (by decide) rfl (by decide)
    have c15 := ne25 c 15 15 hc (by decide) rfl (by decide)
    have lhf : hf.length = 10 := by
      obtain ⟨fs, q1, q2, -⟩ := fld i1 hc (show rI0 25 = some ro_25 from rfl)
      rw [p2] at q1
      cases q1
      exact q2
    obtain ⟨hrun, hfA⟩ := l12 (nuM wM b (Int32.ofNat (cntS OW (g 11).toNat x)) x) (nuC (nmL wM b (Int32.ofNat (cntS OW (g 11).toNat x)) x)) (nu_eq _ _ _ _)
    have t7 : ∀ t ∈ T7, t ≠ 14 ∧ t ≠ 15 ∧ t + 2 ≠ 14 ∧ t + 2 ≠ 15 := by decide
    have qv := r_valueOf (d := 716) (h := h) (k := c) (t := t) ⟨⟨a1, z3, z4, z6⟩, ⟨p2, p4, p6, p3⟩, ⟨l2, yb, wt, fr, l3⟩, c14⟩ ⟨⟨z9, z10, (List.getElem?_eq_some_iff.mp z11).1⟩, ⟨l4, l5, t7 t l1⟩, z12, l6⟩ z11 z13 l7 l8 hrun
    obtain ⟨r, hA, k1, -, q2⟩ := q_beasts (d := 716) (x := x) (y := y) (k := c) (hf := hf) (b := b) a1 a2 ⟨by omega, by omega⟩ z2 b1 (fun _ => ⟨p1, p2, ⟨p4, lhf, c14, c15⟩, qv⟩)
    rw [e1] at k1
    cases k1
    have q2 := q2 hok
    have lw := r_law1 (d := 619) i4 hH1 i13 ml1 (x := x) (b := b) hx0 n47 y2 y3 y5 a4 n51 n58 y10 hg11 y13 y14 p5 l11 l9 hfA
    obtain ⟨r, hC, k2, -, q3⟩ := q_Mbeasts (d := 716) (x := x) (y := y) (b := b) n47 y4 y3 n51 (fun _ => ⟨p5, lw⟩)
    rw [e3] at k2
    cases k2
    have q3 := q3 hok
    by_cases hlw : b < y ∧ (eAt (nuM wM b (Int32.ofNat (cntS OW (g 11).toNat x)) x) 13 s).1 < y
    · obtain ⟨s1, s2⟩ := q2.1 hlw
      obtain ⟨s3, s4⟩ := q3.1 hlw
      cases s1
      cases s3
      exact ⟨_, _, h1, h2, g', ρ', fs9, e1, e2, e3, ⟨e4, e5, jh_fk fk2 m1 (s4.trans n51.symm) m58 (same s2)⟩, rfl⟩
    · obtain ⟨s1, s2, s5⟩ := q2.2 hlw
      obtain ⟨s3, s4⟩ := q3.2 hlw
      cases s1
      cases s3
      refine ⟨_, _, h1, h2, g', ρ', fs9, e1, e2, e3, ⟨e4, e5, HM, S, qs, BL.set x.toInt.toNat y, OW, ?_, ⟨m1.trans n1, s4, m58.trans n58⟩, fun k hk12 => ⟨fun q => ?_, fun q => ?_⟩⟩, rfl⟩
      · obtain ⟨f0', d1, d2⟩ := fk2 0 10 f0 n0
        obtain ⟨fM', d3, d4⟩ := fk2 47 11 fM n47
        exact ⟨⟨f0', d1, (d2 10 rfl).trans a2⟩, fM', d3, (d4 21 rfl).trans a4⟩
      · by_cases hkx : k = x.toInt.toNat
        · subst hkx
          obtain ⟨fs', d1, d2⟩ := fk2 c 4 _ s5
          refine ⟨c, fs', y, p1, d1, ?_, ⟨?_, List.getElem?_set_self (List.getElem?_eq_some_iff.mp p5).1⟩, ?_⟩
          · rw [hxk]
            exact (d2 0 rfl).trans ((List.getElem?_set_ne (by decide)).trans p3)
          · exact (d2 3 rfl).trans (List.getElem?_set_self (by omega))
          · rw [hxk, hSn]
            exact (d2 7 rfl).trans ((List.getElem?_set_ne (by decide)).trans p6)
        · obtain ⟨c', hf', b', o1, o2, o3, ⟨o4, o5⟩, o6⟩ := (hk k hk12).1 q
          have hc' := r25 k c' o1
          have cne : c' ≠ c := fun e => by
            subst e
            rw [p2] at o2
            cases o2
            rw [p3] at o3
            cases o3
            rw [ofN (by omega)] at hkx
            exact hkx (by omega)
          have o7 : h1.1[c']? = some (.inr (4, hf')) := (s2 c' (ne25 c' 14 14 hc' (by decide) rfl (by decide)) (ne25 c' 15 15 hc' (by decide) rfl (by decide)) cne).trans o2
          obtain ⟨fs', d1, d2⟩ := fk2 c' 4 _ o7
          exact ⟨c', fs', b', o1, d1, (d2 0 rfl).trans o3, ⟨(d2 3 rfl).trans o4, (List.getElem?_set_ne (fun e => hkx e.symm)).trans o5⟩, (d2 7 rfl).trans o6⟩
      · obtain ⟨u1, u2⟩ := (hk k hk12).2 q
        exact ⟨(List.getElem?_set_ne (by omega)).trans u1, u2⟩
  · obtain ⟨r, hA, k1, q1, -⟩ := q_beasts (d := 716) (x := x) (y := y) (k := 0) (hf := []) (b := 0) (v := 0) a1 a2 ⟨by omega, by omega⟩ z2 b1 (fun q => absurd q hok)
    rw [e1] at k1
    cases k1
    obtain ⟨s1, s2⟩ := q1 hok
    obtain ⟨r, hC, k2, q3, -⟩ := q_Mbeasts (d := 716) (x := x) (y := y) (b := 0) (v := 0) n47 y4 y3 n51 (fun q => absurd q hok)
    rw [e3] at k2
    cases k2
    obtain ⟨s3, s4⟩ := q3 hok
    cases s1
    cases s3
    refine ⟨_, _, h1, h2, g', ρ', fs9, e1, e2, e3, ⟨e4, e5, jh_fk fk2 m1 (by rw [s4]) m58 (same (fun j _ _ => by rw [s2]))⟩, rfl⟩
