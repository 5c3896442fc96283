/-! make and text of the reference, text of the class -/
def ctT (T : List Int32) (Q K : Nat) (cs Tc : List Int32) : Prop := Tc.length = 360 ∧ (∀ j : Nat, j < K → Tc[120 * Q + 60 + j]? = cs[j]?) ∧ ∀ i : Nat, (i < 120 * Q + 60 ∨ 120 * Q + 120 ≤ i) → Tc[i]? = T[i]?
set_option maxRecDepth 10000 in
set_option maxHeartbeats 2000000 in
theorem r_MmkL {d : Nat} {l : List mC} {s Q : Nat} {fs : List Value} {q y f n : Int32} {T cs : List Int32} {P : Option Value → mS → Prop} (hm : l[47]? = some (.inr (11, fs))) (f25 : fs[25]? = some (.ref 68)) (f23 : fs[23]? = some (.ref 67)) (f24 : fs[24]? = some (.int n)) (e67 : l[67]? = some (.inl (0, .inl cs))) (hT : 68 < l.length) (hQ : Q < 3) (q4 : ((2 * q + 1) * 60).toInt = 120 * Q + 60) (lc : cs.length = 60) (n0 : 0 ≤ n.toInt) (n1 : n.toInt ≤ 60) (fin : ∀ (k : Int32) (Tc : List Int32), ctT T Q n.toNatClampNeg cs Tc → mE (mcall d) none 5 (mgd 115 mtX11_make) 200 (87, [(4, .int k), (3, .int f), (0, .ref 47), (1, .int q), (2, .int y)], [], (l.set 68 (.inl (0, .inl Tc)), s)) P) : ∀ (j K : Nat) (k : Int32) (Tc : List Int32), k.toInt = K → (K : Int) + j = n.toInt → ctT T Q K cs Tc → mE (mcall d) none 5 (mgd 115 mtX11_make) (30 * j + 230) (49, [(4, .int k), (3, .int f), (0, .ref 47), (1, .int q), (2, .int y)], [], (l.set 68 (.inl (0, .inl Tc)), s)) P := by
  have e1 : (1 : Int32).toInt = 1 := by decide
  have gm : ∀ X : mC, (l.set 68 X)[47]? = some (.inr (11, fs)) := fun X => (List.getElem?_set_ne (by decide)).trans hm
  have g67 : ∀ X : mC, (l.set 68 X)[67]? = some (.inl (0, .inl cs)) := fun X => (List.getElem?_set_ne (by decide)).trans e67
  intro j
  induction j with
  | zero =>
    intro K k Tc hk hj hc
    have hK : K = n.toNatClampNeg := (nc_of (n := K) (by omega)).symm
    subst hK
    refine mE_ild 51 rfl rfl rfl rfl ?_
    refine mE_aldn 52 rfl rfl rfl rfl ?_
    refine mE_gf 55 rfl rfl (gm _) f24 rfl ?_
    refine mE_ic_ge_t 87 rfl (Int32.le_iff_toInt_le.mpr (by omega)) rfl ?_
    exact mE_le (fin k Tc hc) (by omega)
  | succ j ih =>
    intro K k Tc hk hj hc
    have ki : (k + 1).toInt = k.toInt + 1 := by rw [add_id (by omega) (by omega), e1]
    have a2 : ((2 * q + 1) * 60 + k).toInt = ((120 * Q + 60 + K : Nat) : Int) := by rw [add_id (by omega) (by omega)]; omega
    have b2 := nc_of a2
    have bk := nc_of hk
    obtain ⟨hc1, hc2, hc3⟩ := hc
    have hv : cs[K]? = some (cs[K]'(by omega)) := List.getElem?_eq_getElem (by omega)
    generalize cs[K]'(by omega) = v at hv
    rw [show 30 * (j + 1) + 230 = (30 * j + 230) + 30 by omega]
    refine mE_ild 51 rfl rfl rfl rfl ?_
    refine mE_aldn 52 rfl rfl rfl rfl ?_
    refine mE_gf 55 rfl rfl (gm _) f24 rfl ?_
    refine mE_ic_ge_f 58 rfl (fun z => by have := Int32.le_iff_toInt_le.mp z; omega) rfl ?_
    refine mE_aldn 59 rfl rfl rfl rfl ?_
    refine mE_gf 62 rfl rfl (gm _) f25 rfl ?_
    refine mE_ico 63 (2) rfl rfl rfl ?_
    refine mE_ildn 64 rfl rfl rfl rfl ?_
    refine mE_imul 65 (2 * q) rfl rfl rfl ?_
    refine mE_ico 66 (1) rfl rfl rfl ?_
    refine mE_iadd 67 ((2 * q) + 1) rfl rfl rfl ?_
    refine mE_bip 69 (60) rfl rfl rfl ?_
    refine mE_imul 70 (((2 * q) + 1) * 60) rfl rfl rfl ?_
    refine mE_ild 72 rfl rfl rfl rfl ?_
    refine mE_iadd 73 ((((2 * q) + 1) * 60) + k) rfl rfl rfl ?_
    refine mE_aldn 74 rfl rfl rfl rfl ?_
    refine mE_gf 77 rfl rfl (gm _) f23 rfl ?_
    refine mE_ild 79 rfl rfl rfl rfl ?_
    refine mE_ila 80 rfl (g67 _) (nn_of hk) (by rw [bk]; exact hv) rfl ?_
    refine mE_isa 81 (120 * Q + 60 + K) rfl (List.getElem?_set_self hT) b2 (by rintro (z | z); exact nn_of a2 z; omega) rfl ?_
    show mE _ _ _ _ _ (81, _, _, ((l.set 68 (.inl (0, .inl Tc))).set 68 (.inl (0, .inl (Tc.set (120 * Q + 60 + K) v))), s)) _
    rw [List.set_set]
    refine mE_iinc 84 (k + (1)) [(4, .int (k + (1))), (3, .int f), (0, .ref 47), (1, .int q), (2, .int y)] rfl rfl rfl rfl rfl rfl ?_
    refine mE_goto 49 rfl rfl ?_
    refine mE_le (ih (K + 1) (k + 1) (Tc.set (120 * Q + 60 + K) v) (by omega) (by omega) ⟨by rw [List.length_set]; exact hc1, fun i hi => ?_, fun i hi => ?_⟩) (by omega)
    · by_cases he : 120 * Q + 60 + K = 120 * Q + 60 + i
      · have : K = i := by omega
        subst this
        rw [List.getElem?_set_self (by omega)]
        exact hv.symm
      · rw [List.getElem?_set_ne he]
        exact hc2 i (by omega)
    · rw [List.getElem?_set_ne (by omega)]
      exact hc3 i hi
/-- the reference's laws behind comeIntoForce of Q at week w -/
def cfR (w : Int) (Q : Nat) (T N W T1 N1 : List Int32) : Prop := ∃ n u : Int32, N[2 * Q + 1]? = some n ∧ W[Q]? = some u ∧ ((¬ (0 < n.toInt ∧ u.toInt ≤ w) ∧ T1 = T ∧ N1 = N) ∨ ((0 < n.toInt ∧ u.toInt ≤ w) ∧ cpT T Q n.toNatClampNeg T1 ∧ N1 = (N.set (2 * Q) n).set (2 * Q + 1) 0))
/-- what is known of the reference's laws -/
def mlH (h : List mC) (T N W : List Int32) : Prop := h[68]? = some (.inl (0, .inl T)) ∧ h[69]? = some (.inl (0, .inl N)) ∧ h[70]? = some (.inl (0, .inl W))
theorem ml_of {g : Nat → Int} {ρ : List Nat} {h : List mC} (hH : okH rI0 g ρ h) (hρ : ρ.take 78 = ρ00) : ∃ T N W : List Int32, mlH h T N W ∧ (T.length = 360 ∧ N.length = 6 ∧ W.length = 3) ∧ (∀ z ∈ N, 0 ≤ z.toInt ∧ z.toInt ≤ 60) ∧ ∃ (fs : List Value) (x : Int32), h[47]? = some (.inr (11, fs)) ∧ (fs[25]? = some (.ref 68) ∧ fs[26]? = some (.ref 69) ∧ fs[27]? = some (.ref 70) ∧ fs[0]? = some (.int x)) ∧ x.toInt = g 12 := by
  obtain ⟨fs, kT, kN, kW, x, T, N, W, a1, ⟨f25, f26, f27, f0⟩, ⟨r51, r52, r53⟩, ⟨t1, n1, w1⟩, l3, rN, hx⟩ := cif_at hH (at_rho hρ (k := 47) (r := 30) (by decide) rfl)
  have hT : kT = 68 := one_of hH r51 (at_rho hρ (k := 68) (by decide) rfl) (by decide)
  have hN : kN = 69 := one_of hH r52 (at_rho hρ (k := 69) (by decide) rfl) (by decide)
  have hW : kW = 70 := one_of hH r53 (at_rho hρ (k := 70) (by decide) rfl) (by decide)
  subst hT
  subst hN
  subst hW
  exact ⟨T, N, W, ⟨t1, n1, w1⟩, l3, rN, fs, x, a1, ⟨f25, f26, f27, f0⟩, hx⟩
/-- comeIntoForce, over the places -/
theorem r_cifP {d : Nat} {g : Nat → Int} {ρ : List Nat} {h : mS} (hH : okH rI0 g ρ h.1) (hρ : ρ.take 78 = ρ00) {T N W : List Int32} (hml : mlH h.1 T N W) {q : Int32} (hq0 : 0 ≤ q.toInt) (hq2 : q.toInt ≤ 2) {Q : Nat} (hQq : q.toInt = Q) : mR (d + 1) 120 [.ref 47, .int q] h (fun r h' => r = none ∧ ∃ T1 N1, cfR (g 12) Q T N W T1 N1 ∧ mlH h'.1 T1 N1 W ∧ ∀ k : Nat, k ≠ 68 → k ≠ 69 → h'.1[k]? = h.1[k]?) := by
  obtain ⟨T', N', W', ⟨m1, m2, m3⟩, ⟨lT, lN, lW⟩, rN, fs, x, a1, ⟨f25, f26, f27, f0⟩, hx⟩ := ml_of hH hρ
  obtain ⟨t1, n1, w1⟩ := hml
  rw [t1] at m1
  cases m1
  rw [n1] at m2
  cases m2
  rw [w1] at m3
  cases m3
  obtain ⟨Q', hQ', e0, -, e1, e2, e3, e4⟩ := q3_of hq0 hq2
  have hQQ : Q' = Q := by omega
  subst hQQ
  obtain ⟨r, h', c1, c2, n, u, c3, c4, c5⟩ := r_cif (d := d) a1 f25 f26 f27 f0 t1 n1 w1 (by decide) (by decide) (by decide) lT lN lW rN hQ' e0 e1 e2 e3 e4
  rw [hx] at c5
  refine ⟨r, h', c1, c2, ?_⟩
  rcases c5 with ⟨c6, c7⟩ | ⟨c6, T1, c7, c8⟩
  · rw [c7]
    exact ⟨T, N, ⟨n, u, c3, c4, Or.inl ⟨c6, rfl, rfl⟩⟩, ⟨t1, n1, w1⟩, fun _ _ _ => rfl⟩
  · have l69 : 69 < h.1.length := (List.getElem?_eq_some_iff.mp n1).1
    have l68 : 68 < h.1.length := (List.getElem?_eq_some_iff.mp t1).1
    rw [c8]
    refine ⟨T1, _, ⟨n, u, c3, c4, Or.inr ⟨c6, c7, rfl⟩⟩, ⟨?_, ?_, ?_⟩, fun k z1 z2 => ?_⟩
    · exact (List.getElem?_set_ne (by decide)).trans (List.getElem?_set_self (by rw [List.length_set]; exact l68))
    · exact List.getElem?_set_self (by rw [List.length_set, List.length_set]; exact l69)
    · exact (List.getElem?_set_ne (by decide)).trans ((List.getElem?_set_ne (by decide)).trans ((List.getElem?_set_ne (by decide)).trans w1))
    · exact (List.getElem?_set_ne (fun e => z2 e.symm)).trans ((List.getElem?_set_ne (fun e => z1 e.symm)).trans (List.getElem?_set_ne (fun e => z2 e.symm)))
theorem cf_len {w : Int} {Q : Nat} {T N W T1 N1 : List Int32} (h : cfR w Q T N W T1 N1) (lT : T.length = 360) (lN : N.length = 6) : T1.length = 360 ∧ N1.length = 6 := by
  obtain ⟨n, u, -, -, ⟨-, rfl, rfl⟩ | ⟨-, c, rfl⟩⟩ := h
  · exact ⟨lT, lN⟩
  · exact ⟨c.1, by rw [List.length_set, List.length_set]; exact lN⟩
def mkM (w : Int) (x y n : Int32) (bs T N W : List Int32) (h' : List mC) : Prop := (¬ (mOk w x y ∧ flT n bs = -1) ∧ mlH h' T N W) ∨ ((mOk w x y ∧ flT n bs = -1) ∧ ∃ (Q : Nat) (T1 N1 T2 : List Int32), Q < 3 ∧ x.toInt = Q ∧ cfR w Q T N W T1 N1 ∧ ctT T1 Q n.toNatClampNeg bs T2 ∧ mlH h' T2 (N1.set (2 * Q + 1) n) (W.set Q y))
set_option maxRecDepth 10000 in
set_option maxHeartbeats 2000000 in
theorem q_Mmake {d : Nat} (hall : CTall ci_early d) {g : Nat → Int} {ρ : List Nat} (hg : okG aBl g) {h : mS} (hH : okH rI0 g ρ h.1) (hρ : ρ.take 78 = ρ00) {x y : Int32} {n : Int32} {bs : List Int32} {f1 : List Value} (ht : tpOk n bs) (e47 : h.1[47]? = some (.inr (11, f1))) (f24 : f1[24]? = some (.int n)) (e67 : h.1[67]? = some (.inl (0, .inl bs))) {T N W : List Int32} (hml : mlH h.1 T N W) : mR (d + 4) 124 [.ref 47, .int x, .int y] h (fun _ h' => mkM (g 12) x y n bs T N W h'.1) := by
  have c0 : (0 : Int32).toInt = 0 := by decide
  have c1 : (1 : Int32).toInt = 1 := by decide
  have c2 : (2 : Int32).toInt = 2 := by decide
  have c2000 : (2000 : Int32).toInt = 2000 := by decide
  have cm1 : (-1 : Int32).toInt = -1 := by decide
  have r47 : ρ[47]? = some 30 := at_rho hρ (by decide) rfl
  have r69 : ρ[69]? = some 52 := at_rho hρ (by decide) rfl
  have r70 : ρ[70]? = some 53 := at_rho hρ (by decide) rfl
  have r71 : ρ[71]? = some 54 := at_rho hρ (by decide) rfl
  have hall3 : CTall ci_early (d + 3) := hall.le (by omega)
  obtain ⟨fs, nw, e47', ⟨f23, f33⟩, f0, hnw⟩ := cx_M hH hρ
  rw [e47] at e47'
  cases e47'
  obtain ⟨cY, a1, ys, rfl, a2, a3⟩ := hH.at r71 (R := .inr (.inl (1, 13, 0, 1))) rfl
  have a4 : ∀ (k : Nat) (y : Int32), ys[k]? = some y → y = 0 ∨ y = 1 := fun k y e => by
    have := a3 y (List.mem_of_getElem? e)
    have hh : y.toInt = 0 ∨ y.toInt = 1 := by omega
    rcases hh with q | q
    · exact Or.inl (Int32.toInt_inj.mp q)
    · exact Or.inr (Int32.toInt_inj.mp q)
  refine mR_ix [(0, .ref 47), (1, .int x), (2, .int y)] rfl rfl rfl ?_
  refine mE_ildn 1 rfl rfl rfl rfl ?_
  refine mE_ico 2 0 rfl rfl rfl ?_
  refine mE_ico 3 2 rfl rfl rfl ?_
  refine mE_cs [.int x, .int 0, .int 2] [] rfl rfl rfl rfl rfl ?_
  obtain ⟨r, hh, k1, rfl, e9⟩ := r_Mwithin (d + 2) x 0 2 h
  subst e9
  refine ⟨_, _, k1, ?_⟩
  refine mE_if_eq rfl (fun hx => ?_) (fun hx => ?_)
  · have hx := bit0_iff.mp hx
    rw [within_iff, c0, c2] at hx
    refine mE_ico 24 (-1) rfl rfl rfl ?_
    exact mE_iret rfl ⟨rfl, Or.inl ⟨fun q => hx q.1.1, hml⟩⟩
  have hx := Classical.not_not.mp (fun q => hx (bit0_iff.mpr q))
  rw [within_iff, c0, c2] at hx
  refine mE_ildn 10 rfl rfl rfl rfl ?_
  refine mE_aldn 11 rfl rfl rfl rfl ?_
  refine mE_gf 14 rfl rfl e47 f0 rfl ?_
  refine mE_sip 17 2000 rfl rfl rfl ?_
  refine mE_cs [.int y, .int nw, .int 2000] [] rfl rfl rfl rfl rfl ?_
  obtain ⟨r, h2, k2, rfl, e9⟩ := r_Mwithin (d + 2) y nw 2000 hh
  subst e9
  refine ⟨_, _, k2, ?_⟩
  refine mE_if_ne rfl (fun hy => ?_) (fun hy => ?_)
  rotate_left
  · have hy := bit0_iff.mp (Classical.not_not.mp hy)
    rw [within_iff, hnw, c2000] at hy
    refine mE_ico 24 (-1) rfl rfl rfl ?_
    exact mE_iret rfl ⟨rfl, Or.inl ⟨fun q => hy q.1.2, hml⟩⟩
  have hy := Classical.not_not.mp (fun q => hy (bit0_iff.mpr q))
  rw [within_iff, hnw, c2000] at hy
  refine mE_aldn 26 rfl rfl rfl rfl ?_
  refine mE_cv [] [] rfl rfl rfl rfl e47 rfl ?_
  obtain ⟨r, hA, k3, hHA, hFA, v, rfl, ⟨f, rfl, hf0, -⟩, -⟩ := hall3 102 _ rfl g ρ [.ref 47] h2 hg hH ⟨⟨47, rfl, r47⟩, trivial⟩ (fun q hq => by cases hq)
  have k3 : mcall (d + 3) 110 [.ref 47] h2 = some (some (.int f), hA) := k3
  obtain ⟨r2, hB, k4, hf⟩ := r_fault (d := d + 1) ht e47 f23 f24 f33 e67 a1 a2 a4
  rw [k3] at k4
  cases k4
  have hf : some (Value.int f) = some (.int (flT n bs)) := hf
  cases hf
  refine ⟨_, _, k3, ?_⟩
  refine mE_istn 30 [(3, .int (flT n bs)), (0, .ref 47), (1, .int x), (2, .int y)] rfl rfl rfl rfl ?_
  refine mE_ildn 31 rfl rfl rfl rfl ?_
  refine mE_if_lt rfl (fun q => ?_) (fun q => ?_)
  rotate_left
  · have hq : ¬ flT n bs = -1 := fun e => q (by rw [e]; decide)
    refine mE_bip 36 (-10) rfl rfl rfl ?_
    refine mE_ildn 37 rfl rfl rfl rfl ?_
    refine mE_ico 38 1 rfl rfl rfl ?_
    refine mE_iadd 39 (flT n bs + 1) rfl rfl rfl ?_
    refine mE_imul 40 (-10 * (flT n bs + 1)) rfl rfl rfl ?_
    exact mE_iret rfl ⟨rfl, Or.inl ⟨fun z => hq z.2, (hFA.1 68 51 (at_rho hρ (by decide) rfl) (by decide)).trans hml.1, (hFA.1 69 52 (at_rho hρ (by decide) rfl) (by decide)).trans hml.2.1, (hFA.1 70 53 (at_rho hρ (by decide) rfl) (by decide)).trans hml.2.2⟩⟩
  have hq : flT n bs = -1 := by
    have h1 := Int32.lt_iff_toInt_lt.mp q
    have h2 : -1 ≤ (flT n bs).toInt := hf0
    exact Int32.toInt_inj.mp (by omega)
  have r51 : ρ[68]? = some 51 := at_rho hρ (by decide) rfl
  have r52 : ρ[69]? = some 52 := at_rho hρ (by decide) rfl
  have r53 : ρ[70]? = some 53 := at_rho hρ (by decide) rfl
  have r50 : ρ[67]? = some 50 := at_rho hρ (by decide) rfl
  obtain ⟨Q, hQ, e0, eq, q1, q2, q3, q4⟩ := q3_of hx.1 hx.2
  obtain ⟨t1, n1, w1⟩ := hml
  have hmlA : mlH hA.1 T N W := ⟨(hFA.1 68 51 r51 (by decide)).trans t1, (hFA.1 69 52 r52 (by decide)).trans n1, (hFA.1 70 53 r53 (by decide)).trans w1⟩
  have e47A : hA.1[47]? = some (.inr (11, f1)) := (hFA.1 47 30 r47 (by decide)).trans e47
  have e67A : hA.1[67]? = some (.inl (0, .inl bs)) := (hFA.1 67 50 r50 (by decide)).trans e67
  obtain ⟨T', N', W', ⟨m1, m2, m3⟩, ⟨lT, lN, lW⟩, rN, fs', x', b1, ⟨f25, f26, f27, -⟩, -⟩ := ml_of hHA hρ
  rw [hmlA.1] at m1
  cases m1
  rw [hmlA.2.1] at m2
  cases m2
  rw [hmlA.2.2] at m3
  cases m3
  rw [e47A] at b1
  cases b1
  refine mE_aldn 42 rfl rfl rfl rfl ?_
  refine mE_ildn 43 rfl rfl rfl rfl ?_
  refine mE_cv [.int x] [] rfl rfl rfl rfl e47A rfl ?_
  obtain ⟨r, hC, k5, rfl, T1, N1, hcf, hmlC, hoth⟩ := r_cifP (d := d + 2) hHA hρ hmlA hx.1 hx.2 e0
  refine ⟨_, _, k5, ?_⟩
  obtain ⟨lT1, lN1⟩ := cf_len hcf lT lN
  have e47C : hC.1[47]? = some (.inr (11, f1)) := (hoth 47 (by decide) (by decide)).trans e47A
  have e67C : hC.1[67]? = some (.inl (0, .inl bs)) := (hoth 67 (by decide) (by decide)).trans e67A
  have l68 : 68 < hC.1.length := (List.getElem?_eq_some_iff.mp hmlC.1).1
  have l69 : 69 < hC.1.length := (List.getElem?_eq_some_iff.mp hmlC.2.1).1
  have l70 : 70 < hC.1.length := (List.getElem?_eq_some_iff.mp hmlC.2.2).1
  have l24 : 24 < f1.length := (List.getElem?_eq_some_iff.mp f24).1
  refine mE_ico 47 0 rfl rfl rfl ?_
  refine mE_ist 49 [(4, .int 0), (3, .int (flT n bs)), (0, .ref 47), (1, .int x), (2, .int y)] rfl rfl rfl rfl ?_
  have nn := ht.1
  have nn1 := ht.2.1
  have hnc : (n.toNatClampNeg : Int) = n.toInt := by
    show ((n.toInt.toNat : Nat) : Int) = n.toInt
    omega
  have F := r_MmkL (d := d + 3) (l := hC.1) (s := hC.2) (Q := Q) (q := x) (y := y) (f := flT n bs) (T := T1) (P := fun r h' => mretok (some .int) r = true ∧ mkM (g 12) x y n bs T N W h'.1) e47C f25 f23 f24 e67C l68 hQ q4 ht.2.2.1 ht.1 ht.2.1 (fun k Tc hc => ?_) n.toNatClampNeg 0 0 T1 c0 (by omega) ⟨lT1, fun j hj => absurd hj (Nat.not_lt_zero j), fun _ _ => rfl⟩
  · rw [set_selfC hmlC.1] at F
    exact mE_le F (Nat.le_trans (show 30 * n.toNatClampNeg + 230 ≤ 2030 by omega) (Nat.le_of_ble_eq_true rfl))
  have gm : ∀ (k : Nat) (X : mC), (68 : Nat) ≠ k → (hC.1.set 68 X)[k]? = hC.1[k]? := fun k X z => List.getElem?_set_ne z
  have u1 : ∀ X Y : mC, ((hC.1.set 68 X).set 69 Y)[47]? = some (.inr (11, f1)) := fun X Y => (List.getElem?_set_ne (by decide)).trans ((gm 47 X (by decide)).trans e47C)
  have u2 : ∀ X Y : mC, ((hC.1.set 68 X).set 69 Y)[70]? = some (.inl (0, .inl W)) := fun X Y => (List.getElem?_set_ne (by decide)).trans ((gm 70 X (by decide)).trans hmlC.2.2)
  refine mE_aldn 88 rfl rfl rfl rfl ?_
  refine mE_gf 91 rfl rfl ((gm 47 _ (by decide)).trans e47C) f26 rfl ?_
  refine mE_ico 92 2 rfl rfl rfl ?_
  refine mE_ildn 93 rfl rfl rfl rfl ?_
  refine mE_imul 94 (2 * x) rfl rfl rfl ?_
  refine mE_ico 95 1 rfl rfl rfl ?_
  refine mE_iadd 96 (2 * x + 1) rfl rfl rfl ?_
  refine mE_aldn 97 rfl rfl rfl rfl ?_
  refine mE_gf 100 rfl rfl ((gm 47 _ (by decide)).trans e47C) f24 rfl ?_
  refine mE_isa 101 (2 * Q + 1) rfl ((gm 69 _ (by decide)).trans hmlC.2.1) (nc_of (n := 2 * Q + 1) (by omega)) (by rintro (z | z); exact nn_of (n := 2 * Q + 1) (x := 2 * x + 1) (by omega) z; omega) rfl ?_
  refine mE_aldn 102 rfl rfl rfl rfl ?_
  refine mE_gf 105 rfl rfl (u1 _ _) f27 rfl ?_
  refine mE_ildn 106 rfl rfl rfl rfl ?_
  refine mE_ildn 107 rfl rfl rfl rfl ?_
  refine mE_isa 108 Q rfl (u2 _ _) (nc_of e0) (by rintro (z | z); exact nn_of e0 z; omega) rfl ?_
  refine mE_aldn 109 rfl rfl rfl rfl ?_
  refine mE_ico 110 0 rfl rfl rfl ?_
  refine mE_pf 113 rfl ((List.getElem?_set_ne (by decide)).trans (u1 _ _)) (by show (true && Nat.blt 24 f1.length) = true; rw [Nat.blt_eq.mpr l24]; rfl) rfl ?_
  refine mE_ico 114 0 rfl rfl rfl ?_
  refine mE_iret rfl ⟨rfl, Or.inr ⟨⟨⟨hx, hy⟩, hq⟩, Q, T1, N1, Tc, hQ, e0, hcf, hc, ?_, ?_, ?_⟩⟩
  · exact (List.getElem?_set_ne (by decide)).trans ((List.getElem?_set_ne (by decide)).trans ((List.getElem?_set_ne (by decide)).trans (List.getElem?_set_self l68)))
  · exact (List.getElem?_set_ne (by decide)).trans ((List.getElem?_set_ne (by decide)).trans (List.getElem?_set_self (by rw [List.length_set]; exact l69)))
  · exact (List.getElem?_set_ne (by decide)).trans (List.getElem?_set_self (by rw [List.length_set, List.length_set]; exact l70))
def txR (n i v : Int32) (at_ : Nat → Option Int32) : Prop := (¬ (0 ≤ i.toInt ∧ i.toInt < n.toInt) ∧ v = -1) ∨ ((0 ≤ i.toInt ∧ i.toInt < n.toInt) ∧ at_ i.toNatClampNeg = some v)
set_option maxRecDepth 10000 in
set_option maxHeartbeats 2000000 in
theorem r_Mtext {d : Nat} {g : Nat → Int} {ρ : List Nat} {h : mS} (hH : okH rI0 g ρ h.1) (hρ : ρ.take 78 = ρ00) {T N W : List Int32} (hml : mlH h.1 T N W) {x i : Int32} : mR (d + 2) 127 [.ref 47, .int x, .int i] h (fun r _ => ∃ v : Int32, r = some (.int v) ∧ ((¬ (0 ≤ x.toInt ∧ x.toInt ≤ 2) ∧ v = -1) ∨ ∃ (Q : Nat) (T1 N1 : List Int32) (n : Int32), Q < 3 ∧ x.toInt = Q ∧ cfR (g 12) Q T N W T1 N1 ∧ N1[2 * Q]? = some n ∧ txR n i v (fun j => T1[120 * Q + j]?))) := by
  have c0 : (0 : Int32).toInt = 0 := by decide
  have c2 : (2 : Int32).toInt = 2 := by decide
  obtain ⟨T', N', W', ⟨m1, m2, m3⟩, ⟨lT, lN, lW⟩, rN, fs, xw, a1, ⟨f25, f26, f27, f0⟩, hxw⟩ := ml_of hH hρ
  rw [hml.1] at m1
  cases m1
  rw [hml.2.1] at m2
  cases m2
  rw [hml.2.2] at m3
  cases m3
  refine mR_ix [(0, .ref 47), (1, .int x), (2, .int i)] rfl rfl rfl ?_
  refine mE_ildn 1 rfl rfl rfl rfl ?_
  refine mE_ico 2 0 rfl rfl rfl ?_
  refine mE_ico 3 2 rfl rfl rfl ?_
  refine mE_cs [.int x, .int 0, .int 2] [] rfl rfl rfl rfl rfl ?_
  obtain ⟨r, hh, k1, rfl, e9⟩ := r_Mwithin d x 0 2 h
  subst e9
  refine ⟨_, _, k1, ?_⟩
  refine mE_if_ne rfl (fun hx => ?_) (fun hx => ?_)
  rotate_left
  · have hx := bit0_iff.mp (Classical.not_not.mp hx)
    rw [within_iff, c0, c2] at hx
    refine mE_ico 10 (-1) rfl rfl rfl ?_
    exact mE_iret rfl ⟨rfl, -1, rfl, Or.inl ⟨hx, rfl⟩⟩
  have hx := Classical.not_not.mp (fun q => hx (bit0_iff.mpr q))
  rw [within_iff, c0, c2] at hx
  obtain ⟨Q, hQ, e0, -, q1, q2, q3, q4⟩ := q3_of hx.1 hx.2
  refine mE_aldn 12 rfl rfl rfl rfl ?_
  refine mE_ildn 13 rfl rfl rfl rfl ?_
  refine mE_cv [.int x] [] rfl rfl rfl rfl a1 rfl ?_
  obtain ⟨r, hC, k5, rfl, T1, N1, hcf, hmlC, hoth⟩ := r_cifP (d := d) hH hρ hml hx.1 hx.2 e0
  refine ⟨_, _, k5, ?_⟩
  obtain ⟨lT1, lN1⟩ := cf_len hcf lT lN
  have e47C : hC.1[47]? = some (.inr (11, fs)) := (hoth 47 (by decide) (by decide)).trans a1
  have hn : N1[2 * Q]? = some (N1[2 * Q]'(by omega)) := List.getElem?_eq_getElem (by omega)
  generalize N1[2 * Q]'(by omega) = n at hn
  have hn60 : 0 ≤ n.toInt ∧ n.toInt ≤ 60 := by
    obtain ⟨z, u, y1, y2, ⟨-, rfl, rfl⟩ | ⟨-, -, rfl⟩⟩ := hcf
    · exact rN n (List.mem_of_getElem? hn)
    · rw [List.getElem?_set_ne (by omega), List.getElem?_set_self (by omega)] at hn
      cases hn
      exact rN n (List.mem_of_getElem? y1)
  refine mE_ildn 17 rfl rfl rfl rfl ?_
  refine mE_if_lt rfl (fun h0 => ?_) (fun h0 => ?_)
  · have h0 := Int32.lt_iff_toInt_lt.mp h0
    refine mE_ico 49 (-1) rfl rfl rfl ?_
    exact mE_iret rfl ⟨rfl, -1, rfl, Or.inr ⟨Q, T1, N1, n, hQ, e0, hcf, hn, Or.inl ⟨fun z => by omega, rfl⟩⟩⟩
  have h0 := Int32.le_iff_toInt_le.mp (Int32.not_lt.mp h0)
  refine mE_ildn 21 rfl rfl rfl rfl ?_
  refine mE_aldn 22 rfl rfl rfl rfl ?_
  refine mE_gf 25 rfl rfl e47C f26 rfl ?_
  refine mE_ico 26 2 rfl rfl rfl ?_
  refine mE_ildn 27 rfl rfl rfl rfl ?_
  refine mE_imul 28 (2 * x) rfl rfl rfl ?_
  refine mE_ila 29 rfl hmlC.2.1 (nn_of (n := 2 * Q) (by omega)) (by rw [nc_of (n := 2 * Q) (x := 2 * x) (by omega)]; exact hn) rfl ?_
  refine mE_ic_ge rfl (fun h1 => ?_) (fun h1 => ?_)
  · have h1 := Int32.le_iff_toInt_le.mp h1
    refine mE_ico 49 (-1) rfl rfl rfl ?_
    exact mE_iret rfl ⟨rfl, -1, rfl, Or.inr ⟨Q, T1, N1, n, hQ, e0, hcf, hn, Or.inl ⟨fun z => by omega, rfl⟩⟩⟩
  have h1 := Int32.lt_iff_toInt_lt.mp (Int32.not_le.mp h1)
  have ic : (i.toNatClampNeg : Int) = i.toInt := by
    show ((i.toInt.toNat : Nat) : Int) = i.toInt
    omega
  have a2 : (2 * x * 60 + i).toInt = ((120 * Q + i.toNatClampNeg : Nat) : Int) := by rw [add_id (by omega) (by omega)]; omega
  have hv : T1[120 * Q + i.toNatClampNeg]? = some (T1[120 * Q + i.toNatClampNeg]'(by omega)) := List.getElem?_eq_getElem (by omega)
  generalize T1[120 * Q + i.toNatClampNeg]'(by omega) = v at hv
  refine mE_aldn 33 rfl rfl rfl rfl ?_
  refine mE_gf 36 rfl rfl e47C f25 rfl ?_
  refine mE_ico 37 2 rfl rfl rfl ?_
  refine mE_ildn 38 rfl rfl rfl rfl ?_
  refine mE_imul 39 (2 * x) rfl rfl rfl ?_
  refine mE_bip 41 60 rfl rfl rfl ?_
  refine mE_imul 42 (2 * x * 60) rfl rfl rfl ?_
  refine mE_ildn 43 rfl rfl rfl rfl ?_
  refine mE_iadd 44 (2 * x * 60 + i) rfl rfl rfl ?_
  refine mE_ila 45 rfl hmlC.1 (nn_of a2) (by rw [nc_of a2]; exact hv) rfl ?_
  refine mE_goto 49 rfl rfl ?_
  exact mE_iret rfl ⟨rfl, v, rfl, Or.inr ⟨Q, T1, N1, n, hQ, e0, hcf, hn, Or.inr ⟨⟨by omega, h1⟩, hv⟩⟩⟩
set_option maxRecDepth 10000 in
set_option maxHeartbeats 2000000 in
theorem r_text {d : Nat} {g : Nat → Int} {ρ : List Nat} {h : mS} (hH : okH rI0 g ρ h.1) (hρ : ρ.take 78 = ρ00) {x i : Int32} {A B : Nat → Nat} {WT FR : Nat → Int32} (hl : lwH h.1 A B WT FR) (h5 : h.1[5]? = some (.inl (5, .inr [some 26, some 33, some 40]))) (hT : ∀ q : Nat, q < 3 → ∃ (sz : Int32) (bs : List Int32), Tx h.1 (A q) sz bs ∧ A q ∈ T7) : mR (d + 2) 72 [.ref 0, .int x, .int i] h (fun r _ => ∃ v : Int32, r = some (.int v) ∧ ((¬ (0 ≤ x.toInt ∧ x.toInt ≤ 2) ∧ v = -1) ∨ ∃ (Q : Nat) (sz : Int32) (bs : List Int32), Q < 3 ∧ x.toInt = Q ∧ Tx h.1 (A Q) sz bs ∧ txR sz i v (fun j => bs[j]?))) := by
  have c0 : (0 : Int32).toInt = 0 := by decide
  have c1 : (1 : Int32).toInt = 1 := by decide
  have c2 : (2 : Int32).toInt = 2 := by decide
  obtain ⟨f0, nw, e0, ⟨f5, f6, f4, f12⟩, hnw⟩ := cx_C hH hρ
  refine mR_ix [(0, .ref 0), (1, .int x), (2, .int i)] rfl rfl rfl ?_
  refine mE_ildn 1 rfl rfl rfl rfl ?_
  refine mE_ico 2 0 rfl rfl rfl ?_
  refine mE_ico 3 2 rfl rfl rfl ?_
  refine mE_cs [.int x, .int 0, .int 2] [] rfl rfl rfl rfl rfl ?_
  obtain ⟨r, hh, k1, rfl, e9⟩ := r_within d x 0 2 h
  subst e9
  refine ⟨_, _, k1, ?_⟩
  refine mE_if_eq rfl (fun hx => ?_) (fun hx => ?_)
  · have hx := bit0_iff.mp hx
    rw [within_iff, c0, c2] at hx
    refine mE_ico 32 (-1) rfl rfl rfl ?_
    exact mE_iret rfl ⟨rfl, -1, rfl, Or.inl ⟨hx, rfl⟩⟩
  have hx := Classical.not_not.mp (fun q => hx (bit0_iff.mpr q))
  rw [within_iff, c0, c2] at hx
  obtain ⟨Q, hQ, hxQ, -⟩ := q3_of hx.1 hx.2
  obtain ⟨sz, bs, hTx, hA7⟩ := hT Q hQ
  obtain ⟨ct, t1, t2⟩ := id hTx
  obtain ⟨ra, rb, -⟩ := t7_r hρ hA7
  have hsz : 0 ≤ sz.toInt ∧ sz.toInt ≤ 60 := by
    obtain ⟨fsT, z1, -, z3⟩ := fld hH ra (show rI0 10 = some (.inl (9, rOf 10)) from rfl)
    rw [t1] at z1
    cases z1
    obtain ⟨v2, y1, s2, rfl, y2, y3⟩ := z3 2 (0, 0, 60) rfl
    cases y1
    exact ⟨y2, y3⟩
  have hbl : bs.length = 60 := by
    obtain ⟨cB, z1, ys, rfl, z2, -⟩ := hH.at rb (R := .inr (.inl (0, 60, -2147483648, 2147483647))) rfl
    rw [t2] at z1
    cases z1
    exact z2
  have hpsQ : ([some 26, some 33, some 40] : List (Option Nat))[Q]? = some (some (26 + 7 * Q)) := by
    match Q, hQ with
    | 0, _ => rfl
    | 1, _ => rfl
    | 2, _ => rfl
    | q + 3, hq => omega
  have xnn : ¬ x < 0 := nn_of hxQ
  have xc : x.toNatClampNeg = Q := nc_of hxQ
  have s1 : (sz - 1).toInt = sz.toInt - 1 := by rw [sub_id (by omega) (by omega), c1]
  refine mE_ildn 10 rfl rfl rfl rfl ?_
  refine mE_ico 11 0 rfl rfl rfl ?_
  refine mE_aldn 12 rfl rfl rfl rfl ?_
  refine mE_gf 15 rfl rfl e0 f4 rfl ?_
  refine mE_ildn 16 rfl rfl rfl rfl ?_
  refine mE_qla 17 rfl h5 rfl xnn (by rw [xc]; exact hpsQ) rfl ?_
  refine mE_gf 20 rfl rfl (hl Q hQ) rfl rfl ?_
  refine mE_gf 23 rfl rfl t1 rfl rfl ?_
  refine mE_ico 24 1 rfl rfl rfl ?_
  refine mE_isub 25 (sz - 1) rfl rfl rfl ?_
  refine mE_cs [.int i, .int 0, .int (sz - 1)] [] rfl rfl rfl rfl rfl ?_
  obtain ⟨r, h2, k2, rfl, e9⟩ := r_within d i 0 (sz - 1) hh
  subst e9
  refine ⟨_, _, k2, ?_⟩
  refine mE_if_ne rfl (fun hi => ?_) (fun hi => ?_)
  rotate_left
  · have hi := bit0_iff.mp (Classical.not_not.mp hi)
    rw [within_iff, c0, s1] at hi
    refine mE_ico 32 (-1) rfl rfl rfl ?_
    exact mE_iret rfl ⟨rfl, -1, rfl, Or.inr ⟨Q, sz, bs, hQ, hxQ, hTx, Or.inl ⟨fun z => hi (by omega), rfl⟩⟩⟩
  have hi := Classical.not_not.mp (fun q => hi (bit0_iff.mpr q))
  rw [within_iff, c0, s1] at hi
  have ic : (i.toNatClampNeg : Int) = i.toInt := by
    show ((i.toInt.toNat : Nat) : Int) = i.toInt
    omega
  have hv : bs[i.toNatClampNeg]? = some (bs[i.toNatClampNeg]'(by omega)) := List.getElem?_eq_getElem (by omega)
  generalize bs[i.toNatClampNeg]'(by omega) = v at hv
  refine mE_aldn 34 rfl rfl rfl rfl ?_
  refine mE_gf 37 rfl rfl e0 f4 rfl ?_
  refine mE_ildn 38 rfl rfl rfl rfl ?_
  refine mE_qla 39 rfl h5 rfl xnn (by rw [xc]; exact hpsQ) rfl ?_
  refine mE_gf 42 rfl rfl (hl Q hQ) rfl rfl ?_
  refine mE_gf 45 rfl rfl t1 rfl rfl ?_
  refine mE_ildn 46 rfl rfl rfl rfl ?_
  refine mE_ila 47 rfl t2 (fun z => by have := Int32.lt_iff_toInt_lt.mp z; omega) hv rfl ?_
  exact mE_iret rfl ⟨rfl, v, rfl, Or.inr ⟨Q, sz, bs, hQ, hxQ, hTx, Or.inr ⟨⟨hi.1, by omega⟩, hv⟩⟩⟩
