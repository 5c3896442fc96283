set_option maxRecDepth 10000 in
set_option maxHeartbeats 1000000 in
theorem e_make {d : Nat} (hall : CTall ci_early d) {g : Nat → Int} {ρ : List Nat} (hg : okG aBl g) {h : mS} (hH : okH rI0 g ρ h.1) (hρ : ρ.take 78 = ρ00) {x y : Int32} {n : Int32} {bs : List Int32} (ht : tpOk n bs) (e6 : h.1[6]? = some (.inr (8, [.ref 7, .int n]))) (e7 : h.1[7]? = some (.inl (0, .inl bs))) {A B : Nat → Nat} {WT FR : Nat → Int32} (hl : lwH h.1 A B WT FR) (h5 : h.1[5]? = some (.inl (5, .inr [some 26, some 33, some 40]))) {kd : Nat} (hkd : kd ∈ T7) (hdr : drf h.1 kd) (hTx : ∃ sz b2, Tx h.1 kd sz b2) : mR (d + 11) 69 [.ref 0, .int x, .int y] h (fun _ h' => (¬ mOk (g 2) x y ∧ h' = h) ∨ (mOk (g 2) x y ∧ ∃ (r : Option Value) (hA : mS), mcall (d + 9) 22 [.ref 8, .ref 6] h = some (r, hA) ∧ ∀ t ∈ T7, h'.1[t]? = hA.1[t]? ∧ h'.1[t + 1]? = hA.1[t + 1]? ∧ h'.1[t + 2]? = hA.1[t + 2]?)) := by
  have c0 : (0 : Int32).toInt = 0 := by decide
  have c2 : (2 : Int32).toInt = 2 := by decide
  have c2000 : (2000 : Int32).toInt = 2000 := by decide
  obtain ⟨f0, nw, e0, ⟨f5, f6, f4, f12⟩, hnw⟩ := cx_C hH hρ
  refine mR_ix [(0, .ref 0), (1, .int x), (2, .int y)] rfl rfl rfl ?_
  refine mE_ildn 1 rfl rfl rfl rfl ?_
  refine mE_ico 2 0 rfl rfl rfl ?_
  refine mE_ico 3 2 rfl rfl rfl ?_
  refine mE_cs [.int x, .int 0, .int 2] [] rfl rfl rfl rfl rfl ?_
  obtain ⟨r, hh, k1, rfl, e9⟩ := r_within (d + 9) x 0 2 h
  subst e9
  refine ⟨_, _, k1, ?_⟩
  refine mE_if_eq rfl (fun hx => ?_) (fun hx => ?_)
  · have hx := bit0_iff.mp hx
    rw [within_iff, c0, c2] at hx
    refine mE_ico 24 (-1) rfl rfl rfl ?_
    exact mE_iret rfl ⟨rfl, Or.inl ⟨fun q => hx q.1, rfl⟩⟩
  have hx := Classical.not_not.mp (fun q => hx (bit0_iff.mpr q))
  rw [within_iff, c0, c2] at hx
  refine mE_ildn 10 rfl rfl rfl rfl ?_
  refine mE_aldn 11 rfl rfl rfl rfl ?_
  refine mE_gf 14 rfl rfl e0 f12 rfl ?_
  refine mE_sip 17 2000 rfl rfl rfl ?_
  refine mE_cs [.int y, .int nw, .int 2000] [] rfl rfl rfl rfl rfl ?_
  obtain ⟨r, h2, k2, rfl, e9⟩ := r_within (d + 9) y nw 2000 hh
  subst e9
  refine ⟨_, _, k2, ?_⟩
  refine mE_if_ne rfl (fun hy => ?_) (fun hy => ?_)
  rotate_left
  · have hy := bit0_iff.mp (Classical.not_not.mp hy)
    rw [within_iff, hnw, c2000] at hy
    refine mE_ico 24 (-1) rfl rfl rfl ?_
    exact mE_iret rfl ⟨rfl, Or.inl ⟨fun q => hy q.2, rfl⟩⟩
  have hy := Classical.not_not.mp (fun q => hy (bit0_iff.mpr q))
  rw [within_iff, hnw, c2000] at hy
  obtain ⟨Q, hQ, hxQ⟩ : ∃ Q : Nat, Q < 3 ∧ x.toInt = Q := ⟨x.toInt.toNat, by omega, by omega⟩
  refine mE_aldn 26 rfl rfl rfl rfl ?_
  refine mE_ildn 27 rfl rfl rfl rfl ?_
  refine mE_ildn 28 rfl rfl rfl rfl ?_
  refine mE_cv [.int x, .int y] [] rfl rfl rfl rfl e0 rfl ?_
  obtain ⟨r, hA, k3, q⟩ := mR_and (r_enact hall hg hH hρ (y := y) hx ht e6 e7) (e_enact hall hg hH hρ (y := y) hQ hxQ ht e6 e7 hl h5 hkd hdr hTx)
  refine ⟨_, _, k3, ?_⟩
  rcases q with ⟨⟨q1, rfl, q3⟩ | ⟨q1, rfl, q3⟩, q4⟩
  · exact mE_iret rfl ⟨rfl, Or.inr ⟨⟨hx, hy⟩, q4⟩⟩
  · exact mE_iret rfl ⟨rfl, Or.inr ⟨⟨hx, hy⟩, q4⟩⟩
/-- a text that is fresh or has been read: its steps are those of its bytes -/
def TS (h : List mC) (t : Nat) : Prop := ∃ (sz ct : Int32) (bs st : List Int32), h[t]? = some (.inr (9, [.ref (t + 1), .ref (t + 2), .int sz, .int ct])) ∧ h[t + 1]? = some (cAr bs) ∧ h[t + 2]? = some (cAr st) ∧ st.length = 60 ∧ (sz.toInt = 0 ∨ ∃ τ : RSt, rdS (bs.take sz.toNatClampNeg) ((0, 0, 0, 1, 1), [], []) = some τ ∧ (τ.1.2.2.2.1 = 0 ∧ τ.1.1 ≤ 0) ∧ ct.toInt = (flsh 1 τ.2.1 τ.2.2).1.length ∧ st.take (flsh 1 τ.2.1 τ.2.2).1.length = (flsh 1 τ.2.1 τ.2.2).1)
def JS (h : List mC) : Prop := ∃ kd : Nat, kd ∈ T7 ∧ drf h kd ∧ ∀ t ∈ T7, t ≠ kd → TS h t
theorem TS_fr {h h2 : List mC} {t : Nat} (e0 : h2[t]? = h[t]?) (e1 : h2[t + 1]? = h[t + 1]?) (e2 : h2[t + 2]? = h[t + 2]?) (a : TS h t) : TS h2 t := by
  obtain ⟨sz, ct, bs, st, a1, a2, a3, a4⟩ := a
  exact ⟨sz, ct, bs, st, e0.trans a1, e1.trans a2, e2.trans a3, a4⟩
theorem t7_dis : ∀ kd ∈ T7, (9 < kd ∧ kd + 2 < 47) ∧ ∀ t ∈ T7, t ≠ kd → (t ≠ 8 ∧ t ≠ 9 ∧ t ≠ kd ∧ t ≠ kd + 1 ∧ t ≠ kd + 2) ∧ (t + 1 ≠ 8 ∧ t + 1 ≠ 9 ∧ t + 1 ≠ kd ∧ t + 1 ≠ kd + 1 ∧ t + 1 ≠ kd + 2) ∧ (t + 2 ≠ 8 ∧ t + 2 ≠ 9 ∧ t + 2 ≠ kd ∧ t + 2 ≠ kd + 1 ∧ t + 2 ≠ kd + 2) := by decide
theorem drf_uni {h : List mC} {k1 k2 : Nat} (a : drf h k1) (b : drf h k2) : k1 = k2 := by
  obtain ⟨w, dp, dg, c, wt, mn, a⟩ := a
  obtain ⟨w', dp', dg', c', wt', mn', b⟩ := b
  rw [a] at b
  cases b
  rfl
set_option maxHeartbeats 1000000 in
/-- make of the class keeps it -/
theorem js_make {d : Nat} (hall : CTall ci_early d) {g : Nat → Int} {ρ : List Nat} (hg : okG aBl g) {h : mS} (hH : okH rI0 g ρ h.1) (hρ : ρ.take 78 = ρ00) {x y : Int32} {n : Int32} {bs : List Int32} (ht : tpOk n bs) (e6 : h.1[6]? = some (.inr (8, [.ref 7, .int n]))) (e7 : h.1[7]? = some (.inl (0, .inl bs))) {A B : Nat → Nat} {WT FR : Nat → Int32} (hl : lwH h.1 A B WT FR) (h5 : h.1[5]? = some (.inl (5, .inr [some 26, some 33, some 40]))) {kd : Nat} (hds : DS A B kd) (hdr : drf h.1 kd) (hTx : ∀ t ∈ T7, ∃ sz b2, Tx h.1 t sz b2) (hJ : JS h.1) : mR (d + 11) 69 [.ref 0, .int x, .int y] h (fun _ h' => JS h'.1) := by
  have hkd := hds.1
  obtain ⟨kd', hk', hd', hT⟩ := hJ
  have := drf_uni hd' hdr
  subst this
  obtain ⟨⟨k9, k47⟩, kdis⟩ := t7_dis kd' hkd
  obtain ⟨r, h', k1, q1, q2⟩ := mR_and (q_make hall hg hH hρ (x := x) (y := y) ht e6 e7 hl h5 hkd hdr (hTx kd' hkd)) (e_make hall hg hH hρ (x := x) (y := y) ht e6 e7 hl h5 hkd hdr (hTx kd' hkd))
  refine ⟨r, h', k1, ?_⟩
  rcases q2 with ⟨-, rfl⟩ | ⟨hm, r0, hA, k2, hsame⟩
  · exact ⟨kd', hkd, hd', hT⟩
  rcases q1 with ⟨hm', -⟩ | ⟨-, Q, hQ, hxQ, hen⟩
  · exact absurd hm hm'
  -- the Reader's cells
  obtain ⟨w, dp, dg, c, wt, mn, e8⟩ := id hdr
  obtain ⟨sz, zs0, ct, ek, ez0⟩ := hTx kd' hkd
  obtain ⟨r10, r11, r12⟩ := t7_r hρ hkd
  obtain ⟨c9, e9, xs, rfl, l9, -⟩ := hH.at (at_rho hρ (k := 9) (r := 9) (by decide) rfl) (R := .inr (.inl (0, 60, -2147483648, 2147483647))) rfl
  obtain ⟨c11, ez, zs, rfl, lz, -⟩ := hH.at r11 (R := .inr (.inl (0, 60, -2147483648, 2147483647))) rfl
  obtain ⟨c12, es, ys, rfl, ls, -⟩ := hH.at r12 (R := .inr (.inl (0, 60, -2147483648, 2147483647))) rfl
  have hko : kdOk h.1 kd' := ⟨k9, (List.getElem?_eq_some_iff.mp es).1⟩
  obtain ⟨r3, hB, k3, hfr⟩ := s_readX (d := d) (s0 := h.2) hko e8 e9 ek es ez l9 ls lz e6 e7 ht
  have k3 : mcall (d + 8) 22 [.ref 8, .ref 6] h = some (r3, hB) := k3
  have k3 := mcall_le (show d + 8 ≤ d + 9 by omega) k3
  rw [k2] at k3
  cases k3
  have oth : ∀ t ∈ T7, t ≠ kd' → TS h'.1 t := fun t ht hne => by
    obtain ⟨s1, s2, s3⟩ := hsame t ht
    obtain ⟨⟨a1, a2, a3, a4, a5⟩, ⟨b1, b2, b3, b4, b5⟩, c1, c2, c3, c4, c5⟩ := kdis t ht hne
    exact TS_fr (s1.trans (hfr t a1 a2 a3 a4 a5)) (s2.trans (hfr _ b1 b2 b3 b4 b5)) (s3.trans (hfr _ c1 c2 c3 c4 c5)) (hT t ht hne)
  rcases hen with ⟨hf, -, hdr', -⟩ | ⟨hf, -, -, hdr', -, b2, hTk, hb2⟩
  · exact ⟨kd', hkd, hdr', oth⟩
  refine ⟨B Q, (hds.2 Q hQ).1.2, hdr', fun t ht2 hne => ?_⟩
  by_cases htk : t = kd'
  rotate_left
  · exact oth t ht2 htk
  subst htk
  obtain ⟨τ, t1, t2, t3⟩ := acc_fl ht hf
  obtain ⟨r4, hC, k4, -, ⟨R, hR1, hR2, hR3⟩, -⟩ := s_read (d := d) (s0 := h.2) hko e8 e9 ek es ez l9 ls lz e6 e7 ht t1 t2 t3
  have k4 : mcall (d + 8) 22 [.ref 8, .ref 6] h = some (r4, hC) := k4
  have k4 := mcall_le (show d + 8 ≤ d + 9 by omega) k4
  rw [k2] at k4
  cases k4
  obtain ⟨s1, s2, s3⟩ := hsame t ht2
  obtain ⟨ct', hT1, hT2⟩ := hTk
  refine ⟨n, _, b2, _, s1.trans hR2, hT2, s3.trans hR3, by rw [List.length_append]; omega, Or.inr ⟨τ, ?_, ⟨t2, t3⟩, ofN (by omega), List.take_left⟩⟩
  have : b2.take n.toNatClampNeg = bs.take n.toNatClampNeg := List.ext_getElem? (fun j => by
    rw [List.getElem?_take, List.getElem?_take]
    by_cases hj : j < n.toNatClampNeg
    · rw [if_pos hj, if_pos hj]
      exact hb2 j (by
        have hc : (n.toNatClampNeg : Int) = n.toInt := by
          show ((n.toInt.toNat : Nat) : Int) = n.toInt
          have := ht.1
          omega
        omega)
    · rw [if_neg hj, if_neg hj])
  rw [this]
  exact t1
