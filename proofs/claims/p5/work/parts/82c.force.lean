/-! comeIntoForce: what it does -/
def rOf (r : Nat) : List aV := match rI0 r with | some (.inl q) => q.2 | _ => []
theorem q3_of {q : Int32} (h0 : 0 ≤ q.toInt) (h1 : q.toInt ≤ 2) : ∃ Q : Nat, Q < 3 ∧ q.toInt = Q ∧ q.toNatClampNeg = Q ∧ (2 * q).toInt = 2 * Q ∧ (2 * q + 1).toInt = 2 * Q + 1 ∧ (2 * q * 60).toInt = 120 * Q ∧ ((2 * q + 1) * 60).toInt = 120 * Q + 60 := by
  have h : q.toInt = 0 ∨ q.toInt = 1 ∨ q.toInt = 2 := by omega
  rcases h with h | h | h
  · have e : q = 0 := Int32.toInt_inj.mp h
    subst e
    exact ⟨0, by decide, by decide, by decide, by decide, by decide, by decide, by decide⟩
  · have e : q = 1 := Int32.toInt_inj.mp h
    subst e
    exact ⟨1, by decide, by decide, by decide, by decide, by decide, by decide, by decide⟩
  · have e : q = 2 := Int32.toInt_inj.mp h
    subst e
    exact ⟨2, by decide, by decide, by decide, by decide, by decide, by decide, by decide⟩
theorem nc_of {x : Int32} {n : Nat} (h : x.toInt = n) : x.toNatClampNeg = n := by
  show x.toInt.toNat = n
  omega
theorem nn_of {x : Int32} {n : Nat} (h : x.toInt = n) : ¬ x < 0 := fun q => by
  have := Int32.lt_iff_toInt_lt.mp q
  have e0 : (0 : Int32).toInt = 0 := by decide
  omega
theorem set_selfC {l : List mC} {k : Nat} {c : mC} (e : l[k]? = some c) : l.set k c = l := by
  apply List.ext_getElem?
  intro i
  by_cases hi : k = i
  · subst hi
    rw [List.getElem?_set_self (List.getElem?_eq_some_iff.mp e).1, e]
  · rw [List.getElem?_set_ne hi]
/-- the first K bytes of what waits are written -/
def cpT (T : List Int32) (Q K : Nat) (Tc : List Int32) : Prop := Tc.length = 360 ∧ (∀ j : Nat, j < K → Tc[120 * Q + j]? = T[120 * Q + 60 + j]?) ∧ ∀ i : Nat, (i < 120 * Q ∨ 120 * Q + 60 ≤ i) → Tc[i]? = T[i]?
set_option maxRecDepth 10000 in
set_option maxHeartbeats 2000000 in
theorem r_cifL {d : Nat} {l : List mC} {s m kT kN Q : Nat} {fs : List Value} {q n : Int32} {T N1 : List Int32} (hm : l[m]? = some (.inr (11, fs))) (f25 : fs[25]? = some (.ref kT)) (f26 : fs[26]? = some (.ref kN)) (eN : l[kN]? = some (.inl (0, .inl N1))) (hT : kT < l.length) (nTN : kT ≠ kN) (nTm : kT ≠ m) (hQ : Q < 3) (q1 : (2 * q).toInt = 2 * Q) (q2 : (2 * q + 1).toInt = 2 * Q + 1) (q3 : (2 * q * 60).toInt = 120 * Q) (q4 : ((2 * q + 1) * 60).toInt = 120 * Q + 60) (l6 : N1.length = 6) (hn : N1[2 * Q]? = some n) (n0 : 0 ≤ n.toInt) (n1 : n.toInt ≤ 60) : ∀ (j K : Nat) (k : Int32) (Tc : List Int32), k.toInt = K → (K : Int) + j = n.toInt → cpT T Q K Tc → T.length = 360 → mE (mcall d) none 3 (mgd 104 mtX11_comeIntoForce) (40 * j + 30) (46, [(2, .int k), (0, .ref m), (1, .int q)], [], (l.set kT (.inl (0, .inl Tc)), s)) (fun r h' => mretok none r = true ∧ r = none ∧ ∃ T', cpT T Q n.toNatClampNeg T' ∧ h' = ((l.set kT (.inl (0, .inl T'))).set kN (.inl (0, .inl (N1.set (2 * Q + 1) 0))), s)) := by
  have e1 : (1 : Int32).toInt = 1 := by decide
  have gm : ∀ X : mC, (l.set kT X)[m]? = some (.inr (11, fs)) := fun X => (List.getElem?_set_ne nTm).trans hm
  have gN : ∀ X : mC, (l.set kT X)[kN]? = some (.inl (0, .inl N1)) := fun X => (List.getElem?_set_ne nTN).trans eN
  have c1 := nc_of (n := 2 * Q) (x := 2 * q) (by omega)
  have c2 := nc_of (n := 2 * Q + 1) (x := 2 * q + 1) (by omega)
  intro j
  induction j with
  | zero =>
    intro K k Tc hk hj hc hT3
    have hK : K = n.toNatClampNeg := (nc_of (n := K) (by omega)).symm
    subst hK
    refine mE_ildn 47 rfl rfl rfl rfl ?_
    refine mE_aldn 48 rfl rfl rfl rfl ?_
    refine mE_gf 51 rfl rfl (gm _) f26 rfl ?_
    refine mE_ico 52 (2) rfl rfl rfl ?_
    refine mE_ildn 53 rfl rfl rfl rfl ?_
    refine mE_imul 54 (2 * q) rfl rfl rfl ?_
    refine mE_ila 55 rfl (gN _) (nn_of (n := 2 * Q) (x := 2 * q) (by omega)) (by rw [c1]; exact hn) rfl ?_
    refine mE_ic_ge_t 92 rfl (Int32.le_iff_toInt_le.mpr (by omega)) rfl ?_
    refine mE_aldn 93 rfl rfl rfl rfl ?_
    refine mE_gf 96 rfl rfl (gm _) f26 rfl ?_
    refine mE_ico 97 (2) rfl rfl rfl ?_
    refine mE_ildn 98 rfl rfl rfl rfl ?_
    refine mE_imul 99 (2 * q) rfl rfl rfl ?_
    refine mE_ico 100 (1) rfl rfl rfl ?_
    refine mE_iadd 101 ((2 * q) + 1) rfl rfl rfl ?_
    refine mE_ico 102 (0) rfl rfl rfl ?_
    refine mE_isa 103 (2 * Q + 1) rfl (gN _) c2 (by rintro (z | z); exact nn_of (n := 2 * Q + 1) (x := 2 * q + 1) (by omega) z; omega) rfl ?_
    exact mE_vret rfl ⟨rfl, rfl, Tc, hc, rfl⟩
  | succ j ih =>
    intro K k Tc hk hj hc hT3
    have ki : (k + 1).toInt = k.toInt + 1 := by rw [add_id (by omega) (by omega), e1]
    have a1 : (2 * q * 60 + k).toInt = ((120 * Q + K : Nat) : Int) := by rw [add_id (by omega) (by omega)]; omega
    have a2 : ((2 * q + 1) * 60 + k).toInt = ((120 * Q + 60 + K : Nat) : Int) := by rw [add_id (by omega) (by omega)]; omega
    have b2 := nc_of a2
    have b1 := nc_of a1
    obtain ⟨hc1, hc2, hc3⟩ := hc
    have hv : Tc[120 * Q + 60 + K]? = some (Tc[120 * Q + 60 + K]'(by omega)) := List.getElem?_eq_getElem (by omega)
    generalize Tc[120 * Q + 60 + K]'(by omega) = v at hv
    rw [show 40 * (j + 1) + 30 = (40 * j + 30) + 40 by omega]
    refine mE_ildn 47 rfl rfl rfl rfl ?_
    refine mE_aldn 48 rfl rfl rfl rfl ?_
    refine mE_gf 51 rfl rfl (gm _) f26 rfl ?_
    refine mE_ico 52 (2) rfl rfl rfl ?_
    refine mE_ildn 53 rfl rfl rfl rfl ?_
    refine mE_imul 54 (2 * q) rfl rfl rfl ?_
    refine mE_ila 55 rfl (gN _) (nn_of (n := 2 * Q) (x := 2 * q) (by omega)) (by rw [c1]; exact hn) rfl ?_
    refine mE_ic_ge_f 58 rfl (fun z => by have := Int32.le_iff_toInt_le.mp z; omega) rfl ?_
    refine mE_aldn 59 rfl rfl rfl rfl ?_
    refine mE_gf 62 rfl rfl (gm _) f25 rfl ?_
    refine mE_ico 63 (2) rfl rfl rfl ?_
    refine mE_ildn 64 rfl rfl rfl rfl ?_
    refine mE_imul 65 (2 * q) rfl rfl rfl ?_
    refine mE_bip 67 (60) rfl rfl rfl ?_
    refine mE_imul 68 ((2 * q) * 60) rfl rfl rfl ?_
    refine mE_ildn 69 rfl rfl rfl rfl ?_
    refine mE_iadd 70 (((2 * q) * 60) + k) rfl rfl rfl ?_
    refine mE_aldn 71 rfl rfl rfl rfl ?_
    refine mE_gf 74 rfl rfl (gm _) f25 rfl ?_
    refine mE_ico 75 (2) rfl rfl rfl ?_
    refine mE_ildn 76 rfl rfl rfl rfl ?_
    refine mE_imul 77 (2 * q) rfl rfl rfl ?_
    refine mE_ico 78 (1) rfl rfl rfl ?_
    refine mE_iadd 79 ((2 * q) + 1) rfl rfl rfl ?_
    refine mE_bip 81 (60) rfl rfl rfl ?_
    refine mE_imul 82 (((2 * q) + 1) * 60) rfl rfl rfl ?_
    refine mE_ildn 83 rfl rfl rfl rfl ?_
    refine mE_iadd 84 ((((2 * q) + 1) * 60) + k) rfl rfl rfl ?_
    refine mE_ila 85 rfl (List.getElem?_set_self hT) (nn_of a2) (by rw [b2]; exact hv) rfl ?_
    refine mE_isa 86 (120 * Q + K) rfl (List.getElem?_set_self hT) b1 (by rintro (z | z); exact nn_of a1 z; omega) rfl ?_
    show mE _ _ _ _ _ (86, _, _, ((l.set kT (.inl (0, .inl Tc))).set kT (.inl (0, .inl (Tc.set (120 * Q + K) v))), s)) _
    rw [List.set_set]
    refine mE_iinc 89 (k + (1)) [(2, .int (k + (1))), (0, .ref m), (1, .int q)] rfl rfl rfl rfl rfl rfl ?_
    refine mE_goto 46 rfl rfl ?_
    refine mE_le (ih (K + 1) (k + 1) (Tc.set (120 * Q + K) v) (by omega) (by omega) ⟨by rw [List.length_set]; exact hc1, fun i hi => ?_, fun i hi => ?_⟩ hT3) (by omega)
    · by_cases he : 120 * Q + K = 120 * Q + i
      · rw [he, List.getElem?_set_self (by omega), ← hc3 (120 * Q + 60 + i) (by omega)]
        have : K = i := by omega
        subst this
        exact hv.symm
      · rw [List.getElem?_set_ne he]
        exact hc2 i (by omega)
    · rw [List.getElem?_set_ne (by omega)]
      exact hc3 i hi
set_option maxRecDepth 10000 in
set_option maxHeartbeats 2000000 in
theorem r_cif {d : Nat} {h : mS} {m kT kN kW : Nat} {fs : List Value} {q x : Int32} {T N W : List Int32} {Q : Nat} (hm : h.1[m]? = some (.inr (11, fs))) (f25 : fs[25]? = some (.ref kT)) (f26 : fs[26]? = some (.ref kN)) (f27 : fs[27]? = some (.ref kW)) (f0 : fs[0]? = some (.int x)) (eT : h.1[kT]? = some (.inl (0, .inl T))) (eN : h.1[kN]? = some (.inl (0, .inl N))) (eW : h.1[kW]? = some (.inl (0, .inl W))) (nTN : kT ≠ kN) (nTm : kT ≠ m) (nNm : kN ≠ m) (lT : T.length = 360) (lN : N.length = 6) (lW : W.length = 3) (rN : ∀ z ∈ N, 0 ≤ z.toInt ∧ z.toInt ≤ 60) (hQ : Q < 3) (hq : q.toInt = Q) (q1 : (2 * q).toInt = 2 * Q) (q2 : (2 * q + 1).toInt = 2 * Q + 1) (q3 : (2 * q * 60).toInt = 120 * Q) (q4 : ((2 * q + 1) * 60).toInt = 120 * Q + 60) : mR (d + 1) 120 [.ref m, .int q] h (fun r h' => r = none ∧ ∃ n u : Int32, N[2 * Q + 1]? = some n ∧ W[Q]? = some u ∧ ((¬ (0 < n.toInt ∧ u.toInt ≤ x.toInt) ∧ h' = h) ∨ ((0 < n.toInt ∧ u.toInt ≤ x.toInt) ∧ ∃ T', cpT T Q n.toNatClampNeg T' ∧ h' = (((h.1.set kN (.inl (0, .inl (N.set (2 * Q) n)))).set kT (.inl (0, .inl T'))).set kN (.inl (0, .inl ((N.set (2 * Q) n).set (2 * Q + 1) 0))), h.2)))) := by
  have e0 : (0 : Int32).toInt = 0 := by decide
  have c0 := nc_of (n := Q) (x := q) hq
  have c1 := nc_of (n := 2 * Q) (x := 2 * q) (by omega)
  have c2 := nc_of (n := 2 * Q + 1) (x := 2 * q + 1) (by omega)
  have hn : N[2 * Q + 1]? = some (N[2 * Q + 1]'(by omega)) := List.getElem?_eq_getElem (by omega)
  have hu : W[Q]? = some (W[Q]'(by omega)) := List.getElem?_eq_getElem (by omega)
  generalize N[2 * Q + 1]'(by omega) = n at hn
  generalize W[Q]'(by omega) = u at hu
  have rn := rN n (List.mem_of_getElem? hn)
  have lNh : kN < h.1.length := (List.getElem?_eq_some_iff.mp eN).1
  have lTh : kT < h.1.length := (List.getElem?_eq_some_iff.mp eT).1
  refine mR_ix [(0, .ref m), (1, .int q)] rfl rfl rfl ?_
  refine mE_aldn 1 rfl rfl rfl rfl ?_
  refine mE_gf 4 rfl rfl hm f26 rfl ?_
  refine mE_ico 5 (2) rfl rfl rfl ?_
  refine mE_ildn 6 rfl rfl rfl rfl ?_
  refine mE_imul 7 (2 * q) rfl rfl rfl ?_
  refine mE_ico 8 (1) rfl rfl rfl ?_
  refine mE_iadd 9 ((2 * q) + 1) rfl rfl rfl ?_
  refine mE_ila 10 rfl eN (nn_of (n := 2 * Q + 1) (x := 2 * q + 1) (by omega)) (by rw [c2]; exact hn) rfl ?_
  refine mE_if_le rfl (fun h10 => ?_) (fun h10 => ?_)
  · exact mE_vret rfl ⟨rfl, rfl, n, u, hn, hu, Or.inl ⟨fun z => by have := Int32.le_iff_toInt_le.mp h10; omega, rfl⟩⟩
  · refine mE_aldn 14 rfl rfl rfl rfl ?_
    refine mE_gf 17 rfl rfl hm f27 rfl ?_
    refine mE_ildn 18 rfl rfl rfl rfl ?_
    refine mE_ila 19 rfl eW (nn_of (n := Q) (x := q) hq) (by rw [c0]; exact hu) rfl ?_
    refine mE_aldn 20 rfl rfl rfl rfl ?_
    refine mE_gf 23 rfl rfl hm f0 rfl ?_
    refine mE_ic_gt rfl (fun h23 => ?_) (fun h23 => ?_)
    · exact mE_vret rfl ⟨rfl, rfl, n, u, hn, hu, Or.inl ⟨fun z => by have := Int32.lt_iff_toInt_lt.mp h23; omega, rfl⟩⟩
    · refine mE_aldn 27 rfl rfl rfl rfl ?_
      refine mE_gf 30 rfl rfl hm f26 rfl ?_
      refine mE_ico 31 (2) rfl rfl rfl ?_
      refine mE_ildn 32 rfl rfl rfl rfl ?_
      refine mE_imul 33 (2 * q) rfl rfl rfl ?_
      refine mE_aldn 34 rfl rfl rfl rfl ?_
      refine mE_gf 37 rfl rfl hm f26 rfl ?_
      refine mE_ico 38 (2) rfl rfl rfl ?_
      refine mE_ildn 39 rfl rfl rfl rfl ?_
      refine mE_imul 40 (2 * q) rfl rfl rfl ?_
      refine mE_ico 41 (1) rfl rfl rfl ?_
      refine mE_iadd 42 ((2 * q) + 1) rfl rfl rfl ?_
      refine mE_ila 43 rfl eN (nn_of (n := 2 * Q + 1) (x := 2 * q + 1) (by omega)) (by rw [c2]; exact hn) rfl ?_
      refine mE_isa 44 (2 * Q) rfl eN c1 (by rintro (z | z); exact nn_of (n := 2 * Q) (x := 2 * q) (by omega) z; omega) rfl ?_
      refine mE_ico 45 (0) rfl rfl rfl ?_
      refine mE_istn 46 [(2, .int 0), (0, .ref m), (1, .int q)] rfl rfl rfl rfl ?_
      have hp : 0 < n.toInt ∧ u.toInt ≤ x.toInt := ⟨by have := Int32.lt_iff_toInt_lt.mp (Int32.not_le.mp h10); omega, Int32.le_iff_toInt_le.mp (Int32.not_lt.mp h23)⟩
      have hN1 : (h.1.set kN (.inl (0, .inl (N.set (2 * Q) n))))[kN]? = some (.inl (0, .inl (N.set (2 * Q) n))) := List.getElem?_set_self lNh
      have hT1 : (h.1.set kN (.inl (0, .inl (N.set (2 * Q) n))))[kT]? = some (.inl (0, .inl T)) := (List.getElem?_set_ne (fun z => nTN z.symm)).trans eT
      have F := r_cifL (d := d) (s := h.2) (l := h.1.set kN (.inl (0, .inl (N.set (2 * Q) n)))) (m := m) (kT := kT) (kN := kN) (T := T) (q := q) ((List.getElem?_set_ne nNm).trans hm) f25 f26 hN1 (by rw [List.length_set]; exact lTh) nTN nTm hQ q1 q2 q3 q4 (by rw [List.length_set]; exact lN) (List.getElem?_set_self (by omega)) rn.1 rn.2 n.toNatClampNeg 0 0 T e0 (by show (0 : Int) + (n.toInt.toNat : Nat) = n.toInt; omega) ⟨lT, fun j hj => absurd hj (Nat.not_lt_zero j), fun _ _ => rfl⟩ lT
      rw [set_selfC hT1] at F
      have hle : n.toNatClampNeg ≤ 60 := by show n.toInt.toNat ≤ 60; omega
      refine mE_le (mE_imp F (fun r h' z => ?_)) (Nat.le_trans (show 40 * n.toNatClampNeg + 30 ≤ 2430 by omega) (Nat.le_of_ble_eq_true rfl))
      obtain ⟨z1, z2, T', z3, z4⟩ := z
      exact ⟨z1, z2, n, u, hn, hu, Or.inr ⟨hp, T', z3, z4⟩⟩
def cFx (t : aV) (md : List Nat) : aCT := (120, [(3, 30, 0), t], [], none, md)
theorem cif_at {g : Nat → Int} {ρ : List Nat} {h : List mC} {m : Nat} (hH : okH rI0 g ρ h) (hm : ρ[m]? = some 30) : ∃ (fs : List Value) (kT kN kW : Nat) (x : Int32) (T N W : List Int32), h[m]? = some (.inr (11, fs)) ∧ (fs[25]? = some (.ref kT) ∧ fs[26]? = some (.ref kN) ∧ fs[27]? = some (.ref kW) ∧ fs[0]? = some (.int x)) ∧ (ρ[kT]? = some 51 ∧ ρ[kN]? = some 52 ∧ ρ[kW]? = some 53) ∧ (h[kT]? = some (.inl (0, .inl T)) ∧ h[kN]? = some (.inl (0, .inl N)) ∧ h[kW]? = some (.inl (0, .inl W))) ∧ (T.length = 360 ∧ N.length = 6 ∧ W.length = 3) ∧ (∀ z ∈ N, 0 ≤ z.toInt ∧ z.toInt ≤ 60) ∧ x.toInt = g 12 := by
  obtain ⟨fs, a1, -, a3⟩ := fld hH hm (show rI0 30 = some (.inl (11, rOf 30)) from rfl)
  obtain ⟨w, b1, kT, rfl, b2⟩ := a3 25 (3, 51, 0) rfl
  obtain ⟨w, c1, kN, rfl, c2⟩ := a3 26 (3, 52, 0) rfl
  obtain ⟨w, d1, kW, rfl, d2⟩ := a3 27 (3, 53, 0) rfl
  obtain ⟨w, i1, x, rfl, i2⟩ := a3 0 (1, 12, 0) rfl
  have b2 : ρ[kT]? = some 51 := b2
  have c2 : ρ[kN]? = some 52 := c2
  have d2 : ρ[kW]? = some 53 := d2
  have i2 : x.toInt = g 12 + 0 := i2
  obtain ⟨cT, t1, T, rfl, t2, -⟩ := hH.at b2 (R := .inr (.inl (0, 360, -2147483648, 2147483647))) rfl
  obtain ⟨cN, n1, N, rfl, n2, n3⟩ := hH.at c2 (R := .inr (.inl (0, 6, 0, 60))) rfl
  obtain ⟨cW, w1, W, rfl, w2, -⟩ := hH.at d2 (R := .inr (.inl (0, 3, -2147483648, 2147483647))) rfl
  exact ⟨fs, kT, kN, kW, x, T, N, W, a1, ⟨b1, c1, d1, i1⟩, ⟨b2, c2, d2⟩, ⟨t1, n1, w1⟩, ⟨t2, n2, w2⟩, n3, by omega⟩
set_option maxHeartbeats 2000000 in
theorem CT_cif {d : Nat} {t : aV} (hc : CT rI0 aBl (d + 1) (cFx t [51, 52, 53])) (ht : ∀ g ρ v, hasT g ρ t v → ∃ q : Int32, v = .int q ∧ 0 ≤ q.toInt ∧ q.toInt ≤ 2) : CT rI0 aBl (d + 1) (cFx t [51, 52]) := by
  intro g ρ as h hg hH hA hpre
  obtain ⟨r, h', k1, k2, k3, k4⟩ := hc g ρ as h hg hH hA hpre
  have k1 : mcall (d + 1) 120 as h = some (r, h') := k1
  refine ⟨r, h', k1, k2, ?_, k4⟩
  match as, hA with
  | [v0, v1], hA =>
    obtain ⟨⟨m, rfl, hm⟩, hv1, -⟩ := hA
    have hm : ρ[m]? = some 30 := hm
    obtain ⟨q, rfl, hq0, hq2⟩ := ht g ρ v1 hv1
    obtain ⟨Q, hQ, e0, -, e1, e2, e3, e4⟩ := q3_of hq0 hq2
    obtain ⟨fs, kT, kN, kW, x, T, N, W, a1, ⟨f25, f26, f27, f0⟩, ⟨r51, r52, r53⟩, ⟨t1, n1, w1⟩, ⟨lT, lN, lW⟩, rN, hx⟩ := cif_at hH hm
    have nTN : kT ≠ kN := fun e => by rw [e, r52] at r51; exact absurd r51 (by decide)
    have nTm : kT ≠ m := fun e => by rw [e, hm] at r51; exact absurd r51 (by decide)
    have nNm : kN ≠ m := fun e => by rw [e, hm] at r52; exact absurd r52 (by decide)
    have nTW : kT ≠ kW := fun e => by rw [e, r53] at r51; exact absurd r51 (by decide)
    have nNW : kN ≠ kW := fun e => by rw [e, r53] at r52; exact absurd r52 (by decide)
    obtain ⟨r2, h2, c1, c2, n, u, c3, c4, c5⟩ := r_cif (d := d) a1 f25 f26 f27 f0 t1 n1 w1 nTN nTm nNm lT lN lW rN hQ e0 e1 e2 e3 e4
    rw [k1] at c1
    cases c1
    rcases c5 with ⟨-, c6⟩ | ⟨c6, T', c7, c8⟩
    · rw [c6]
      exact ⟨fun _ _ _ _ => rfl, rfl, Or.inr RR.refl⟩
    · have lNh : kN < h.1.length := (List.getElem?_eq_some_iff.mp n1).1
      have lTh : kT < h.1.length := (List.getElem?_eq_some_iff.mp t1).1
      rw [c8]
      refine ⟨fun k r q1 q2 => ?_, rfl, Or.inr ?_⟩
      · have z1 : kN ≠ k := fun e => by subst e; rw [r52] at q1; cases q1; exact q2 (show 52 ∈ [51, 52] by decide)
        have z2 : kT ≠ k := fun e => by subst e; rw [r51] at q1; cases q1; exact q2 (show 51 ∈ [51, 52] by decide)
        exact (List.getElem?_set_ne z1).trans ((List.getElem?_set_ne z2).trans (List.getElem?_set_ne z1))
      · intro kT2 kN2 kW2 kM2 T2 N2 W2 x2 s1 s2 s3 s4 u1 u2 u3 u4
        have y1 : kT2 = kT := hH.2.2 _ _ _ _ s1 r51 rfl (by decide)
        have y2 : kN2 = kN := hH.2.2 _ _ _ _ s2 r52 rfl (by decide)
        have y3 : kW2 = kW := hH.2.2 _ _ _ _ s3 r53 rfl (by decide)
        have y4 : kM2 = m := hH.2.2 _ _ _ _ s4 hm rfl (by decide)
        subst y1
        subst y2
        subst y3
        subst y4
        rw [t1] at u1
        cases u1
        rw [n1] at u2
        cases u2
        rw [w1] at u3
        cases u3
        rw [a1] at u4
        have u4 : wkV fs[0]? = some x2 := u4
        rw [f0] at u4
        have u4 : some x = some x2 := u4
        cases u4
        refine ⟨T', (N.set (2 * Q) n).set (2 * Q + 1) 0, x, ?_, ?_, ?_, ?_, Int.le_refl _, fun q' hq' => ?_⟩
        · exact (List.getElem?_set_ne (fun e => nTN e.symm)).trans (List.getElem?_set_self (by rw [List.length_set]; exact lTh))
        · exact List.getElem?_set_self (by rw [List.length_set, List.length_set]; exact lNh)
        · exact (List.getElem?_set_ne nNW).trans ((List.getElem?_set_ne nTW).trans ((List.getElem?_set_ne nNW).trans w1))
        · have : (((h.1.set kN2 (.inl (0, .inl (N.set (2 * Q) n)))).set kT2 (.inl (0, .inl T'))).set kN2 (.inl (0, .inl ((N.set (2 * Q) n).set (2 * Q + 1) 0))))[kM2]? = some (.inr (11, fs)) := (List.getElem?_set_ne nNm).trans ((List.getElem?_set_ne nTm).trans ((List.getElem?_set_ne nNm).trans a1))
          rw [this]
          show wkV fs[0]? = some x
          rw [f0]
          rfl
        · obtain ⟨p1, p2, p3⟩ := c7
          by_cases hqq : q' = Q
          · subst hqq
            refine Or.inr ⟨n, u, c3, c6.1, c4, c6.2, List.getElem?_set_self (by rw [List.length_set]; omega), ?_, fun j _ hj => p2 j (by show j < n.toInt.toNat; omega)⟩
            rw [List.getElem?_set_ne (by omega)]
            exact List.getElem?_set_self (by omega)
          · refine Or.inl ⟨?_, ?_, fun j hj => ⟨p3 _ (by omega), p3 _ (by omega)⟩⟩
            · rw [List.getElem?_set_ne (by omega), List.getElem?_set_ne (by omega)]
            · rw [List.getElem?_set_ne (by omega), List.getElem?_set_ne (by omega)]
