/-! make of both -/
theorem cm_0 {ys : List Int32} (h1 : ys.length = 13) (h2 : ∀ (k : Nat) (y : Int32), ys[k]? = some y → y = 0 ∨ y = 1) : cmA 0 0 (ys.set 0 0) := by
  refine ⟨by rw [List.length_set]; exact h1, fun k y e => ?_, fun k hk => ?_⟩
  · by_cases he : 0 = k
    · subst he
      rw [List.getElem?_set_self (by omega)] at e
      cases e
      exact Or.inl rfl
    · rw [List.getElem?_set_ne he] at e
      exact h2 k y e
  · have e0 : (0 : Int32).toInt = 0 := by decide
    have : k = 0 := by omega
    subst this
    rw [List.getElem?_set_self (by omega)]
    exact ⟨fun _ => by decide, fun _ => rfl⟩
set_option maxRecDepth 10000 in
set_option maxHeartbeats 2000000 in
theorem r_fault {d : Nat} {h : mS} {fs : List Value} {n : Int32} {bs ys : List Int32} (ht : tpOk n bs) (h47 : h.1[47]? = some (.inr (11, fs))) (f23 : fs[23]? = some (.ref 67)) (f24 : fs[24]? = some (.int n)) (f33 : fs[33]? = some (.ref 71)) (h67 : h.1[67]? = some (.inl (0, .inl bs))) (h71 : h.1[71]? = some (.inl (1, .inl ys))) (hy1 : ys.length = 13) (hy2 : ∀ (k : Nat) (y : Int32), ys[k]? = some y → y = 0 ∨ y = 1) : mR (d + 2) 110 [.ref 47] h (fun r _ => r = some (.int (psRun (bs.take n.toNatClampNeg) 0 (0, 0, 0, 1, 1)))) := by
  have e0 : (0 : Int32).toInt = 0 := by decide
  refine mR_ix [(0, .ref 47)] rfl rfl rfl ?_
  refine mE_ico 1 (0) rfl rfl rfl ?_
  refine mE_istn 2 [(1, .int 0), (0, .ref 47)] rfl rfl rfl rfl ?_
  refine mE_ico 3 (0) rfl rfl rfl ?_
  refine mE_istn 4 [(2, .int 0), (1, .int 0), (0, .ref 47)] rfl rfl rfl rfl ?_
  refine mE_ico 5 (1) rfl rfl rfl ?_
  refine mE_istn 6 [(3, .int 1), (2, .int 0), (1, .int 0), (0, .ref 47)] rfl rfl rfl rfl ?_
  refine mE_ico 7 (1) rfl rfl rfl ?_
  refine mE_ist 9 [(4, .int 1), (3, .int 1), (2, .int 0), (1, .int 0), (0, .ref 47)] rfl rfl rfl rfl ?_
  refine mE_aldn 10 rfl rfl rfl rfl ?_
  refine mE_gf 13 rfl rfl h47 f33 rfl ?_
  refine mE_ico 14 (0) rfl rfl rfl ?_
  refine mE_ico 15 (0) rfl rfl rfl ?_
  refine mE_bsa 16 0 rfl h71 rfl rfl (by rintro (q | q); exact absurd q (by decide); omega) rfl ?_
  refine mE_ico 17 (0) rfl rfl rfl ?_
  refine mE_ist 19 [(5, .int 0), (4, .int 1), (3, .int 1), (2, .int 0), (1, .int 0), (0, .ref 47)] rfl rfl rfl rfl ?_
  have hl : (bs.take n.toNatClampNeg).length ≤ 60 := by rw [List.length_take, ht.2.2.1]; omega
  exact mE_le (r_faultL ht h47 f23 f24 f33 h67 (List.getElem?_eq_some_iff.mp h71).1 (bs.take n.toNatClampNeg) 0 0 _ (ys.set 0 0) 0 0 0 1 1 e0 (by have := ht.1; omega) rfl ⟨by decide, by decide⟩ (cm_0 hy1 hy2) ⟨rfl, rfl, rfl, rfl, rfl, rfl, lvall _ rfl⟩) (Nat.le_trans (show 90 * (bs.take n.toNatClampNeg).length + 90 ≤ 5490 by omega) (Nat.le_of_ble_eq_true rfl))
/-- what is known of the class's object -/
def cxC (ρ : List Nat) (f0 : List Value) (nw : Int32) : Prop := f0[5]? = some (.ref 6) ∧ f0[6]? = some (.ref 8) ∧ f0[4]? = some (.ref 5) ∧ f0[12]? = some (.int nw)
theorem cx_C {g : Nat → Int} {ρ : List Nat} {h : List mC} (hH : okH rI0 g ρ h) (hρ : ρ.take 78 = ρ00) : ∃ (f0 : List Value) (nw : Int32), h[0]? = some (.inr (10, f0)) ∧ cxC ρ f0 nw ∧ nw.toInt = g 2 := by
  obtain ⟨f0, a1, -, a3⟩ := fld hH (at_rho hρ (k := 0) (r := 0) (by decide) rfl) rO_eq
  obtain ⟨w, b1, k5, rfl, b2⟩ := a3 5 (3, 6, 0) rfl
  obtain ⟨w, c1, k6, rfl, c2⟩ := a3 6 (3, 8, 0) rfl
  obtain ⟨w, d1, k4, rfl, d2⟩ := a3 4 (3, 5, 0) rfl
  obtain ⟨w, i1, nw, rfl, i2⟩ := a3 12 (1, 2, 0) rfl
  have b2 : ρ[k5]? = some 6 := b2
  have c2 : ρ[k6]? = some 8 := c2
  have d2 : ρ[k4]? = some 5 := d2
  have i2 : nw.toInt = g 2 + 0 := i2
  have h5 : k5 = 6 := one_of hH b2 (at_rho hρ (k := 6) (by decide) rfl) (by decide)
  have h6 : k6 = 8 := one_of hH c2 (at_rho hρ (k := 8) (by decide) rfl) (by decide)
  have h4 : k4 = 5 := one_of hH d2 (at_rho hρ (k := 5) (by decide) rfl) (by decide)
  subst h5
  subst h6
  subst h4
  exact ⟨f0, nw, a1, ⟨b1, c1, d1, i1⟩, by omega⟩
def flT (n : Int32) (bs : List Int32) : Int32 := psRun (bs.take n.toNatClampNeg) 0 (0, 0, 0, 1, 1)
def enP (n : Int32) (bs : List Int32) (h : mS) (r : Option Value) (h' : mS) : Prop := (flT n bs = -1 ∧ r = some (.int 0) ∧ h'.1[6]? = some (.inr (8, [.ref 7, .int 0]))) ∨ (¬ flT n bs = -1 ∧ r = some (.int (-10 * (flT n bs + 1))) ∧ h'.1[6]? = h.1[6]?)
set_option maxRecDepth 10000 in
set_option maxHeartbeats 2000000 in
theorem r_enact {d : Nat} (hall : CTall ci_early d) {g : Nat → Int} {ρ : List Nat} (hg : okG aBl g) {h : mS} (hH : okH rI0 g ρ h.1) (hρ : ρ.take 78 = ρ00) {x y : Int32} (hx : 0 ≤ x.toInt ∧ x.toInt ≤ 2) {n : Int32} {bs : List Int32} (ht : tpOk n bs) (e6 : h.1[6]? = some (.inr (8, [.ref 7, .int n]))) (e7 : h.1[7]? = some (.inl (0, .inl bs))) : mR (d + 10) 81 [.ref 0, .int x, .int y] h (enP n bs h) := by
  have r0 : ρ[0]? = some 0 := at_rho hρ (by decide) rfl
  have r5 : ρ[5]? = some 5 := at_rho hρ (by decide) rfl
  have r6 : ρ[6]? = some 6 := at_rho hρ (by decide) rfl
  have r7 : ρ[7]? = some 7 := at_rho hρ (by decide) rfl
  have r8 : ρ[8]? = some 8 := at_rho hρ (by decide) rfl
  have r9 : ρ[9]? = some 9 := at_rho hρ (by decide) rfl
  have c0 : (0 : Int32).toInt = 0 := by decide
  have hall9 : CTall ci_early (d + 9) := hall.le (by omega)
  obtain ⟨f0, nw, e0, ⟨f5, f6, f4, f12⟩, -⟩ := cx_C hH hρ
  obtain ⟨w, dp, dg, c, wt, mn, kd, e8, -⟩ := rd_of hH r8 r9
  have xnn : ¬ x < 0 := fun q => by have := Int32.lt_iff_toInt_lt.mp q; omega
  have xc : (x.toNatClampNeg : Int) = x.toInt := by
    show ((x.toInt.toNat : Nat) : Int) = x.toInt
    omega
  refine mR_ix [(0, .ref 0), (1, .int x), (2, .int y)] rfl rfl rfl ?_
  refine mE_aldn 1 rfl rfl rfl rfl ?_
  refine mE_gf 4 rfl rfl e0 f6 rfl ?_
  refine mE_aldn 5 rfl rfl rfl rfl ?_
  refine mE_gf 8 rfl rfl e0 f5 rfl ?_
  refine mE_cv [.ref 6] [] rfl rfl rfl rfl e8 rfl ?_
  obtain ⟨r, hA, k1, hHA, hFA, v, rfl, ⟨f, rfl, -⟩, -⟩ := hall9 60 _ rfl g ρ [.ref 8, .ref 6] h hg hH ⟨⟨8, rfl, r8⟩, ⟨6, rfl, r6⟩, trivial⟩ (fun q hq => by cases hq)
  have k1 : mcall (d + 9) 22 [.ref 8, .ref 6] h = some (some (.int f), hA) := k1
  obtain ⟨r2, hB, k2, hf⟩ := r_read hall hg r6 r7 r8 r9 ht hH e6 e7
  have k2 := mcall_le (show d + 8 ≤ d + 9 by omega) k2
  rw [k1] at k2
  cases k2
  have hf : some (Value.int f) = some (.int (flT n bs)) := hf
  cases hf
  refine ⟨_, _, k1, ?_⟩
  refine mE_istn 12 [(3, .int (flT n bs)), (0, .ref 0), (1, .int x), (2, .int y)] rfl rfl rfl rfl ?_
  refine mE_ildn 13 rfl rfl rfl rfl ?_
  refine mE_ico 14 (-1) rfl rfl rfl ?_
  refine mE_ic_eq rfl (fun q => ?_) (fun q => ?_)
  rotate_left
  · refine mE_bip 19 (-10) rfl rfl rfl ?_
    refine mE_ildn 20 rfl rfl rfl rfl ?_
    refine mE_ico 21 1 rfl rfl rfl ?_
    refine mE_iadd 22 (flT n bs + 1) rfl rfl rfl ?_
    refine mE_imul 23 (-10 * (flT n bs + 1)) rfl rfl rfl ?_
    exact mE_iret rfl ⟨rfl, Or.inr ⟨q, rfl, hFA.1 6 6 r6 (by decide)⟩⟩
  have e0A : hA.1[0]? = some (.inr (10, f0)) := (hFA.1 0 0 r0 (by decide)).trans e0
  have e6A : hA.1[6]? = some (.inr (8, [.ref 7, .int n])) := (hFA.1 6 6 r6 (by decide)).trans e6
  obtain ⟨w, dp, dg, c, wt, mn, kd, e8A, -, -, -, hkd⟩ := rd_of hHA r8 r9
  obtain ⟨cL, b1, ps, rfl, b2, b3⟩ := hHA.at r5 (R := .inr (.inr (5, 3, 24, 1))) rfl
  have xl : x.toNatClampNeg < ps.length := by rw [b2]; omega
  have hp : ps[x.toNatClampNeg]? = some (ps[x.toNatClampNeg]'xl) := List.getElem?_eq_getElem xl
  obtain ⟨kl, hp, hkl⟩ : ∃ kl, ps[x.toNatClampNeg]? = some (some kl) ∧ ρ[kl]? = some 24 := by
    rcases b3 _ _ hp with ⟨-, q⟩ | ⟨k, q1, q2⟩
    · exact q.elim
    · rw [q1] at hp
      exact ⟨k, hp, q2⟩
  obtain ⟨fL, eL, -, -⟩ := fld hHA hkl (show rI0 24 = some (.inl (1, rOf 24)) from rfl)
  refine mE_aldn 25 rfl rfl rfl rfl ?_
  refine mE_gf 28 rfl rfl e0A f6 rfl ?_
  refine mE_aldn 29 rfl rfl rfl rfl ?_
  refine mE_gf 32 rfl rfl e0A f4 rfl ?_
  refine mE_ildn 33 rfl rfl rfl rfl ?_
  refine mE_qla 34 rfl b1 rfl xnn hp rfl ?_
  refine mE_aldn 35 rfl rfl rfl rfl ?_
  refine mE_gf 38 rfl rfl e0A f6 rfl ?_
  refine mE_gf 41 rfl rfl e8A rfl rfl ?_
  refine mE_ildn 42 rfl rfl rfl rfl ?_
  refine mE_cv [.ref kd, .int y] [.ref 8] rfl rfl rfl rfl eL rfl ?_
  obtain ⟨r, hB, k2, hHB, hFB, v, rfl, ⟨k10, rfl, hk10⟩, -⟩ := hall9 61 _ rfl g ρ [.ref kl, .ref kd, .int y] hA hg hHA ⟨⟨kl, rfl, hkl⟩, ⟨kd, rfl, hkd⟩, a32_ok _, trivial⟩ (fun q hq => by cases hq)
  refine ⟨_, _, k2, ?_⟩
  have e0B : hB.1[0]? = some (.inr (10, f0)) := (hFB.1 0 0 r0 (by decide)).trans e0A
  have e5B : hB.1[5]? = some (.inl (5, .inr ps)) := (hFB.1 5 5 r5 (by decide)).trans b1
  have e6B : hB.1[6]? = some (.inr (8, [.ref 7, .int n])) := (hFB.1 6 6 r6 (by decide)).trans e6A
  have e8B := (hFB.1 8 8 r8 (by decide)).trans e8A
  have hHC := hHB.put r8 (show rI0 8 = some (.inl (5, rOf 8)) from rfl) (j := 7) (t := (3, 10, 0)) rfl e8B ⟨k10, rfl, hk10⟩
  refine mE_pf 48 rfl e8B rfl rfl ?_
  have gne : ∀ (j : Nat) (X : mC), 8 ≠ j → (hB.1.set 8 X)[j]? = hB.1[j]? := fun j X q => List.getElem?_set_ne q
  obtain ⟨fL2, eL2, -, -⟩ := fld hHC hkl (show rI0 24 = some (.inl (1, rOf 24)) from rfl)
  refine mE_aldn 49 rfl rfl rfl rfl ?_
  refine mE_gf 52 rfl rfl ((gne 0 _ (by decide)).trans e0B) f4 rfl ?_
  refine mE_ildn 53 rfl rfl rfl rfl ?_
  refine mE_qla 54 rfl ((gne 5 _ (by decide)).trans e5B) rfl xnn hp rfl ?_
  refine mE_aldn 55 rfl rfl rfl rfl ?_
  refine mE_gf 58 rfl rfl ((gne 0 _ (by decide)).trans e0B) f12 rfl ?_
  refine mE_cv [.int nw] [] rfl rfl rfl rfl eL2 rfl ?_
  obtain ⟨r, hD, k3, -, hFD, rfl⟩ := hall9 62 _ rfl g ρ [.ref kl, .int nw] (hB.1.set 8 _, hB.2) hg hHC ⟨⟨kl, rfl, hkl⟩, a32_ok _, trivial⟩ (fun q hq => by cases hq)
  refine ⟨_, _, k3, ?_⟩
  have e0D : hD.1[0]? = some (.inr (10, f0)) := (hFD.1 0 0 r0 (by decide)).trans ((gne 0 _ (by decide)).trans e0B)
  have e6D : hD.1[6]? = some (.inr (8, [.ref 7, .int n])) := (hFD.1 6 6 r6 (by decide)).trans ((gne 6 _ (by decide)).trans e6B)
  refine mE_aldn 62 rfl rfl rfl rfl ?_
  refine mE_gf 65 rfl rfl e0D f5 rfl ?_
  refine mE_ico 66 0 rfl rfl rfl ?_
  refine mE_pf 69 rfl e6D rfl rfl ?_
  refine mE_ico 70 0 rfl rfl rfl ?_
  exact mE_iret rfl ⟨rfl, Or.inl ⟨q, rfl, List.getElem?_set_self (List.getElem?_eq_some_iff.mp e6D).1⟩⟩
def mOk (w : Int) (x y : Int32) : Prop := (0 ≤ x.toInt ∧ x.toInt ≤ 2) ∧ (w ≤ y.toInt ∧ y.toInt ≤ 2000)
set_option maxRecDepth 10000 in
set_option maxHeartbeats 2000000 in
theorem r_make {d : Nat} (hall : CTall ci_early d) {g : Nat → Int} {ρ : List Nat} (hg : okG aBl g) {h : mS} (hH : okH rI0 g ρ h.1) (hρ : ρ.take 78 = ρ00) {x y : Int32} {n : Int32} {bs : List Int32} (ht : tpOk n bs) (e6 : h.1[6]? = some (.inr (8, [.ref 7, .int n]))) (e7 : h.1[7]? = some (.inl (0, .inl bs))) : mR (d + 11) 69 [.ref 0, .int x, .int y] h (fun r h' => (¬ mOk (g 2) x y ∧ r = some (.int (-1)) ∧ h' = h) ∨ (mOk (g 2) x y ∧ enP n bs h r h')) := by
  have c0 : (0 : Int32).toInt = 0 := by decide
  have c2 : (2 : Int32).toInt = 2 := by decide
  have c2000 : (2000 : Int32).toInt = 2000 := by decide
  obtain ⟨f0, nw, e0, ⟨f5, f6, f4, f12⟩, hnw⟩ := cx_C hH hρ
  refine mR_ix [(0, .ref 0), (1, .int x), (2, .int y)] rfl rfl rfl ?_
  refine mE_ildn 1 rfl rfl rfl rfl ?_
  refine mE_ico 2 0 rfl rfl rfl ?_
  refine mE_ico 3 2 rfl rfl rfl ?_
  refine mE_cs [.int x, .int 0, .int 2] [] rfl rfl rfl rfl rfl ?_
  obtain ⟨r, hh, k1, rfl, e9⟩ := r_within (d + 9) x 0 2 h
  subst e9
  refine ⟨_, _, k1, ?_⟩
  refine mE_if_eq rfl (fun hx => ?_) (fun hx => ?_)
  · have hx := bit0_iff.mp hx
    rw [within_iff, c0, c2] at hx
    refine mE_ico 24 (-1) rfl rfl rfl ?_
    exact mE_iret rfl ⟨rfl, Or.inl ⟨fun q => hx q.1, rfl, rfl⟩⟩
  have hx := Classical.not_not.mp (fun q => hx (bit0_iff.mpr q))
  rw [within_iff, c0, c2] at hx
  refine mE_ildn 10 rfl rfl rfl rfl ?_
  refine mE_aldn 11 rfl rfl rfl rfl ?_
  refine mE_gf 14 rfl rfl e0 f12 rfl ?_
  refine mE_sip 17 2000 rfl rfl rfl ?_
  refine mE_cs [.int y, .int nw, .int 2000] [] rfl rfl rfl rfl rfl ?_
  obtain ⟨r, h2, k2, rfl, e9⟩ := r_within (d + 9) y nw 2000 hh
  subst e9
  refine ⟨_, _, k2, ?_⟩
  refine mE_if_ne rfl (fun hy => ?_) (fun hy => ?_)
  rotate_left
  · have hy := bit0_iff.mp (Classical.not_not.mp hy)
    rw [within_iff, hnw, c2000] at hy
    refine mE_ico 24 (-1) rfl rfl rfl ?_
    exact mE_iret rfl ⟨rfl, Or.inl ⟨fun q => hy q.2, rfl, rfl⟩⟩
  have hy := Classical.not_not.mp (fun q => hy (bit0_iff.mpr q))
  rw [within_iff, hnw, c2000] at hy
  refine mE_aldn 26 rfl rfl rfl rfl ?_
  refine mE_ildn 27 rfl rfl rfl rfl ?_
  refine mE_ildn 28 rfl rfl rfl rfl ?_
  refine mE_cv [.int x, .int y] [] rfl rfl rfl rfl e0 rfl ?_
  obtain ⟨r, hA, k3, q⟩ := r_enact hall hg hH hρ (y := y) hx ht e6 e7
  refine ⟨_, _, k3, ?_⟩
  rcases q with ⟨q1, rfl, q3⟩ | ⟨q1, rfl, q3⟩
  · exact mE_iret rfl ⟨rfl, Or.inr ⟨⟨hx, hy⟩, Or.inl ⟨q1, rfl, q3⟩⟩⟩
  · exact mE_iret rfl ⟨rfl, Or.inr ⟨⟨hx, hy⟩, Or.inr ⟨q1, rfl, q3⟩⟩⟩
def sMk_41 : aAn := ([(0, (3, 30, 0)), (1, (0, 0, 2)), (2, a32)], [], (1729, []))
def sMk_87 : aAn := ([(0, (3, 30, 0)), (1, (0, 0, 2)), (2, a32), (4, (0, 0, 60)), (1024, (0, 0, 60))], [], (400, []))
def sMk : List (Nat × aAn) := [(41, sMk_41),
  (49, [(0, (3, 30, 0)), (1, (0, 0, 2)), (2, a32), (4, (0, 0, 60))], [], (1724, [(4, -22)])),
  (87, sMk_87)]
set_option maxRecDepth 100000 in
theorem sMk_k : sMk.all (fun q => ([87] : List Nat).elem q.1 || ahead aBl rI0 (ctU ci_early) (alook [(43, 103)]) [51, 52, 53] (some (7, 0, 0)) 5 (mgd 115 mtX11_make) (anaf sMk) 73 q.1) = true := by decide +kernel
theorem sMk_e41 : anaf sMk 41 = some sMk_41 := rfl
theorem sMk_e87 : anaf sMk 87 = some sMk_87 := rfl
/-- what is known of the reference's object -/
theorem cx_M {g : Nat → Int} {ρ : List Nat} {h : List mC} (hH : okH rI0 g ρ h) (hρ : ρ.take 78 = ρ00) : ∃ (fs : List Value) (nw : Int32), h[47]? = some (.inr (11, fs)) ∧ (fs[23]? = some (.ref 67) ∧ fs[33]? = some (.ref 71)) ∧ fs[0]? = some (.int nw) ∧ nw.toInt = g 12 := by
  obtain ⟨fs, a1, -, a3⟩ := fld hH (at_rho hρ (k := 47) (r := 30) (by decide) rfl) rM_eq
  obtain ⟨w, b1, k5, rfl, b2⟩ := a3 23 (3, 50, 0) rfl
  obtain ⟨w, c1, k6, rfl, c2⟩ := a3 33 (3, 54, 0) rfl
  obtain ⟨w, i1, nw, rfl, i2⟩ := a3 0 (1, 12, 0) rfl
  have b2 : ρ[k5]? = some 50 := b2
  have c2 : ρ[k6]? = some 54 := c2
  have i2 : nw.toInt = g 12 + 0 := i2
  have h5 : k5 = 67 := one_of hH b2 (at_rho hρ (k := 67) (by decide) rfl) (by decide)
  have h6 : k6 = 71 := one_of hH c2 (at_rho hρ (k := 71) (by decide) rfl) (by decide)
  subst h5
  subst h6
  exact ⟨fs, nw, a1, ⟨b1, c1⟩, i1, by omega⟩
def enM (n : Int32) (bs : List Int32) (h : mS) (r : Option Value) (h' : mS) : Prop := (flT n bs = -1 ∧ r = some (.int 0) ∧ ∃ fs', h'.1[47]? = some (.inr (11, fs')) ∧ fs'[24]? = some (.int 0)) ∨ (¬ flT n bs = -1 ∧ r = some (.int (-10 * (flT n bs + 1))) ∧ h'.1[47]? = h.1[47]?)
set_option maxRecDepth 10000 in
set_option maxHeartbeats 2000000 in
theorem r_Mmake {d : Nat} (hall : CTall ci_early d) {g : Nat → Int} {ρ : List Nat} (hg : okG aBl g) {h : mS} (hH : okH rI0 g ρ h.1) (hρ : ρ.take 78 = ρ00) {x y : Int32} {n : Int32} {bs : List Int32} {f1 : List Value} (ht : tpOk n bs) (e47 : h.1[47]? = some (.inr (11, f1))) (f24 : f1[24]? = some (.int n)) (e67 : h.1[67]? = some (.inl (0, .inl bs))) : mR (d + 4) 124 [.ref 47, .int x, .int y] h (fun r h' => (¬ mOk (g 12) x y ∧ r = some (.int (-1)) ∧ h' = h) ∨ (mOk (g 12) x y ∧ enM n bs h r h')) := by
  have c0 : (0 : Int32).toInt = 0 := by decide
  have c1 : (1 : Int32).toInt = 1 := by decide
  have c2 : (2 : Int32).toInt = 2 := by decide
  have c2000 : (2000 : Int32).toInt = 2000 := by decide
  have cm1 : (-1 : Int32).toInt = -1 := by decide
  have r47 : ρ[47]? = some 30 := at_rho hρ (by decide) rfl
  have r69 : ρ[69]? = some 52 := at_rho hρ (by decide) rfl
  have r70 : ρ[70]? = some 53 := at_rho hρ (by decide) rfl
  have r71 : ρ[71]? = some 54 := at_rho hρ (by decide) rfl
  have hall3 : CTall ci_early (d + 3) := hall.le (by omega)
  obtain ⟨fs, nw, e47', ⟨f23, f33⟩, f0, hnw⟩ := cx_M hH hρ
  rw [e47] at e47'
  cases e47'
  obtain ⟨cY, a1, ys, rfl, a2, a3⟩ := hH.at r71 (R := .inr (.inl (1, 13, 0, 1))) rfl
  have a4 : ∀ (k : Nat) (y : Int32), ys[k]? = some y → y = 0 ∨ y = 1 := fun k y e => by
    have := a3 y (List.mem_of_getElem? e)
    have hh : y.toInt = 0 ∨ y.toInt = 1 := by omega
    rcases hh with q | q
    · exact Or.inl (Int32.toInt_inj.mp q)
    · exact Or.inr (Int32.toInt_inj.mp q)
  refine mR_ix [(0, .ref 47), (1, .int x), (2, .int y)] rfl rfl rfl ?_
  refine mE_ildn 1 rfl rfl rfl rfl ?_
  refine mE_ico 2 0 rfl rfl rfl ?_
  refine mE_ico 3 2 rfl rfl rfl ?_
  refine mE_cs [.int x, .int 0, .int 2] [] rfl rfl rfl rfl rfl ?_
  obtain ⟨r, hh, k1, rfl, e9⟩ := r_Mwithin (d + 2) x 0 2 h
  subst e9
  refine ⟨_, _, k1, ?_⟩
  refine mE_if_eq rfl (fun hx => ?_) (fun hx => ?_)
  · have hx := bit0_iff.mp hx
    rw [within_iff, c0, c2] at hx
    refine mE_ico 24 (-1) rfl rfl rfl ?_
    exact mE_iret rfl ⟨rfl, Or.inl ⟨fun q => hx q.1, rfl, rfl⟩⟩
  have hx := Classical.not_not.mp (fun q => hx (bit0_iff.mpr q))
  rw [within_iff, c0, c2] at hx
  refine mE_ildn 10 rfl rfl rfl rfl ?_
  refine mE_aldn 11 rfl rfl rfl rfl ?_
  refine mE_gf 14 rfl rfl e47 f0 rfl ?_
  refine mE_sip 17 2000 rfl rfl rfl ?_
  refine mE_cs [.int y, .int nw, .int 2000] [] rfl rfl rfl rfl rfl ?_
  obtain ⟨r, h2, k2, rfl, e9⟩ := r_Mwithin (d + 2) y nw 2000 hh
  subst e9
  refine ⟨_, _, k2, ?_⟩
  refine mE_if_ne rfl (fun hy => ?_) (fun hy => ?_)
  rotate_left
  · have hy := bit0_iff.mp (Classical.not_not.mp hy)
    rw [within_iff, hnw, c2000] at hy
    refine mE_ico 24 (-1) rfl rfl rfl ?_
    exact mE_iret rfl ⟨rfl, Or.inl ⟨fun q => hy q.2, rfl, rfl⟩⟩
  have hy := Classical.not_not.mp (fun q => hy (bit0_iff.mpr q))
  rw [within_iff, hnw, c2000] at hy
  refine mE_aldn 26 rfl rfl rfl rfl ?_
  refine mE_cv [] [] rfl rfl rfl rfl e47 rfl ?_
  obtain ⟨r, hA, k3, hHA, hFA, v, rfl, ⟨f, rfl, hf0, -⟩, -⟩ := hall3 102 _ rfl g ρ [.ref 47] h2 hg hH ⟨⟨47, rfl, r47⟩, trivial⟩ (fun q hq => by cases hq)
  have k3 : mcall (d + 3) 110 [.ref 47] h2 = some (some (.int f), hA) := k3
  obtain ⟨r2, hB, k4, hf⟩ := r_fault (d := d + 1) ht e47 f23 f24 f33 e67 a1 a2 a4
  rw [k3] at k4
  cases k4
  have hf : some (Value.int f) = some (.int (flT n bs)) := hf
  cases hf
  refine ⟨_, _, k3, ?_⟩
  refine mE_istn 30 [(3, .int (flT n bs)), (0, .ref 47), (1, .int x), (2, .int y)] rfl rfl rfl rfl ?_
  refine mE_ildn 31 rfl rfl rfl rfl ?_
  refine mE_if_lt rfl (fun q => ?_) (fun q => ?_)
  rotate_left
  · have hq : ¬ flT n bs = -1 := fun e => q (by rw [e]; decide)
    refine mE_bip 36 (-10) rfl rfl rfl ?_
    refine mE_ildn 37 rfl rfl rfl rfl ?_
    refine mE_ico 38 1 rfl rfl rfl ?_
    refine mE_iadd 39 (flT n bs + 1) rfl rfl rfl ?_
    refine mE_imul 40 (-10 * (flT n bs + 1)) rfl rfl rfl ?_
    exact mE_iret rfl ⟨rfl, Or.inr ⟨⟨hx, hy⟩, Or.inr ⟨hq, rfl, hFA.1 47 30 r47 (by decide)⟩⟩⟩
  have hq : flT n bs = -1 := by
    have h1 := Int32.lt_iff_toInt_lt.mp q
    have h2 : -1 ≤ (flT n bs).toInt := hf0
    exact Int32.toInt_inj.mp (by omega)
  have hex : ∀ (pc : Nat) (A : aAn) (mm : Int), anaf sMk pc = some A → pc ∈ [87] → Gs rI0 g ρ [51, 52, 53] hA (d + 3) 5 (mgd 115 mtX11_make) (fun r h' => mretok (some .int) r = true ∧ ((¬ mOk (g 12) x y ∧ r = some (.int (-1)) ∧ h' = h2) ∨ (mOk (g 12) x y ∧ enM n bs h2 r h'))) 0 mm (pc, A) := by
    intro pc A mm hA' hpc
    rcases List.mem_cons.mp hpc with rfl | hpc
    rotate_left
    · cases hpc
    rw [sMk_e87] at hA'
    cases hA'
    intro lv st h5 hS _
    have hst := hS.2.2.1.nil
    subst hst
    obtain ⟨v, q1, m', rfl, q3⟩ := hS.2.1.get (x := 0) (t := (3, 30, 0)) rfl
    obtain ⟨v, p1, x', rfl, p2, p3⟩ := hS.2.1.get (x := 1) (t := (0, 0, 2)) rfl
    obtain ⟨v, s1, y', rfl, -⟩ := hS.2.1.get (x := 2) (t := a32) rfl
    have q3 : ρ[m']? = some 30 := q3
    have hmm : m' = 47 := one_of hS.1 q3 r47 (by decide)
    subst hmm
    have q1 : mget lv 0 = some (.ref 47) := q1
    have p1 : mget lv 1 = some (.int x') := p1
    have s1 : mget lv 2 = some (.int y') := s1
    obtain ⟨f5, u1, u2, u3⟩ := fld hS.1 r47 rM_eq
    obtain ⟨w, t1, k26, rfl, t2⟩ := u3 26 (3, 52, 0) rfl
    obtain ⟨w, t3, k27, rfl, t4⟩ := u3 27 (3, 53, 0) rfl
    obtain ⟨w, t5, n5, rfl, -⟩ := u3 24 (0, 0, 60) rfl
    have t2 : ρ[k26]? = some 52 := t2
    have t4 : ρ[k27]? = some 53 := t4
    have hk26 : k26 = 69 := one_of hS.1 t2 r69 (by decide)
    have hk27 : k27 = 70 := one_of hS.1 t4 r70 (by decide)
    subst hk26
    subst hk27
    obtain ⟨cT, v1, ms, rfl, v2, -⟩ := hS.1.at r69 (R := .inr (.inl (0, 6, 0, 60))) rfl
    obtain ⟨cW, w1, ws, rfl, w2, -⟩ := hS.1.at r70 (R := .inr (.inl (0, 3, -2147483648, 2147483647))) rfl
    have p2 : 0 ≤ x'.toInt := p2
    have p3 : x'.toInt ≤ 2 := p3
    have m2 : (2 * x').toInt = 2 * x'.toInt := by rw [mul_id (by rw [c2]; omega) (by rw [c2]; omega), c2]
    have m3 : (2 * x' + 1).toInt = 2 * x'.toInt + 1 := by rw [add_id (by omega) (by omega), m2, c1]
    have m4 : ((2 * x' + 1).toNatClampNeg : Int) = (2 * x' + 1).toInt := by
      show (((2 * x' + 1).toInt.toNat : Nat) : Int) = (2 * x' + 1).toInt
      omega
    have m5 : (x'.toNatClampNeg : Int) = x'.toInt := by
      show ((x'.toInt.toNat : Nat) : Int) = x'.toInt
      omega
    have hl5 : 24 < f5.length := (List.getElem?_eq_some_iff.mp t5).1
    have l47 : 47 < h5.1.length := (List.getElem?_eq_some_iff.mp u1).1
    refine ⟨400, Int.le_refl _, ?_⟩
    refine mE_aldn 88 rfl q1 rfl rfl ?_
    refine mE_gf 91 rfl rfl u1 t1 rfl ?_
    refine mE_ico 92 2 rfl rfl rfl ?_
    refine mE_ildn 93 rfl p1 rfl rfl ?_
    refine mE_imul 94 (2 * x') rfl rfl rfl ?_
    refine mE_ico 95 1 rfl rfl rfl ?_
    refine mE_iadd 96 (2 * x' + 1) rfl rfl rfl ?_
    refine mE_aldn 97 rfl q1 rfl rfl ?_
    refine mE_gf 100 rfl rfl u1 t5 rfl ?_
    refine mE_isa 101 (2 * x' + 1).toNatClampNeg rfl v1 rfl (by rintro (q | q); have := Int32.lt_iff_toInt_lt.mp q; omega; omega) rfl ?_
    have u1' : ∀ X : mC, (h5.1.set 69 X)[47]? = some (.inr (11, f5)) := fun X => (List.getElem?_set_ne (by decide)).trans u1
    have w1' : ∀ X : mC, (h5.1.set 69 X)[70]? = some (.inl (0, .inl ws)) := fun X => (List.getElem?_set_ne (by decide)).trans w1
    refine mE_aldn 102 rfl q1 rfl rfl ?_
    refine mE_gf 105 rfl rfl (u1' _) t3 rfl ?_
    refine mE_ildn 106 rfl p1 rfl rfl ?_
    refine mE_ildn 107 rfl s1 rfl rfl ?_
    refine mE_isa 108 x'.toNatClampNeg rfl (w1' _) rfl (by rintro (q | q); have := Int32.lt_iff_toInt_lt.mp q; omega; omega) rfl ?_
    refine mE_aldn 109 rfl q1 rfl rfl ?_
    refine mE_ico 110 0 rfl rfl rfl ?_
    refine mE_pf 113 rfl ((List.getElem?_set_ne (by decide)).trans (u1' _)) (by show (true && Nat.blt 24 f5.length) = true; rw [Nat.blt_eq.mpr hl5]; rfl) rfl ?_
    refine mE_ico 114 0 rfl rfl rfl ?_
    exact mE_iret rfl ⟨rfl, Or.inr ⟨⟨hx, hy⟩, Or.inl ⟨hq, rfl, f5.set 24 (.int 0), List.getElem?_set_self (by rw [List.length_set, List.length_set]; exact l47), List.getElem?_set_self hl5⟩⟩⟩
  have G := seg_ok (rt := some (7, 0, 0)) (Int.le_refl 0) hg hall3 (fun r h' _ _ q => elimT q) sMk_k hex
  obtain ⟨n9, hn9, kE⟩ := G _ 41 _ sMk_e41 [(3, .int (flT n bs)), (0, .ref 47), (1, .int x), (2, .int y)] [] hA ⟨hHA, okL.cons (v := .ref 47) rfl ⟨47, rfl, r47⟩ (okL.cons (v := .int x) rfl ⟨x, rfl, hx.1, hx.2⟩ (okL.cons (v := .int y) rfl (a32_ok y) okL.nil)), trivial, lvall _ rfl, okFr.rfl⟩ (Int.le_refl _)
  have hn9 : (n9 : Int) ≤ 1729 + 0 + 0 := hn9
  exact mE_le kE (Nat.le_trans (show n9 ≤ 1729 by omega) (Nat.le_of_ble_eq_true rfl))
