/-! lawOf of the reference, of law 1 -/
theorem M_at {g : Nat → Int} {ρ : List Nat} {h : List mC} (hH : okH rI0 g ρ h) (hρ : ρ.take 78 = ρ00) : ∃ (fs : List Value) (w S H : Int32) (BL OW : List Int32), h[47]? = some (.inr (11, fs)) ∧ (fs[0]? = some (.int w) ∧ fs[4]? = some (.ref 51) ∧ fs[9]? = some (.int H) ∧ fs[12]? = some (.ref 58) ∧ fs[21]? = some (.int S)) ∧ (h[51]? = some (.inl (0, .inl BL)) ∧ h[58]? = some (.inl (0, .inl OW))) ∧ (w.toInt = g 12 ∧ S.toInt = g 11 ∧ H.toInt = g 10) ∧ (BL.length = 12 ∧ OW.length = 60) ∧ fs.length = 43 := by
  obtain ⟨fs, a1, a2, a3⟩ := fld hH (at_rho hρ (k := 47) (r := 30) (by decide) rfl) (show rI0 30 = some ro_30 from rfl)
  obtain ⟨v, b1, kB, rfl, b2⟩ := a3 4 (3, 34, 0) rfl
  obtain ⟨v, c1, kO, rfl, c2⟩ := a3 12 (3, 41, 0) rfl
  obtain ⟨v, i1, w, rfl, i2⟩ := a3 0 (1, 12, 0) rfl
  obtain ⟨v, s1, S, rfl, s2⟩ := a3 21 (1, 11, 0) rfl
  obtain ⟨v, t1, H, rfl, t2⟩ := a3 9 (1, 10, 0) rfl
  have b2 : ρ[kB]? = some 34 := b2
  have c2 : ρ[kO]? = some 41 := c2
  have i2 : w.toInt = g 12 + 0 := i2
  have s2 : S.toInt = g 11 + 0 := s2
  have t2 : H.toInt = g 10 + 0 := t2
  have hB : kB = 51 := one_of hH b2 (at_rho hρ (k := 51) (by decide) rfl) (by decide)
  have hO : kO = 58 := one_of hH c2 (at_rho hρ (k := 58) (by decide) rfl) (by decide)
  subst hB
  subst hO
  obtain ⟨cB, x1, BL, rfl, x2, -⟩ := hH.at b2 (R := .inr (.inl (0, 12, 0, 9))) rfl
  obtain ⟨cO, y1, OW, rfl, y2, -⟩ := hH.at c2 (R := .inr (.inl (0, 60, 0, 11))) rfl
  exact ⟨fs, w, S, H, BL, OW, a1, ⟨i1, b1, t1, c1, s1⟩, ⟨x1, y1⟩, ⟨by omega, by omega, by omega⟩, ⟨x2, y2⟩, a2⟩
/-- the fields of the reference as its reckoning of law 1 for house x begins -/
def fL (fs : List Value) (x : Int32) (n : Nat) : List Value := ((((fs.set 31 (.int x)).set 32 (.int (-1))).set 29 (.int 120)).set 28 (.int 120)).set 30 (.int (Int32.ofNat (120 + n)))
theorem fL_ne {fs : List Value} {x : Int32} {n j : Nat} (h : j < 28 ∨ 32 < j) : (fL fs x n)[j]? = fs[j]? := by
  unfold fL
  rw [List.getElem?_set_ne (by omega), List.getElem?_set_ne (by omega), List.getElem?_set_ne (by omega), List.getElem?_set_ne (by omega), List.getElem?_set_ne (by omega)]
set_option maxRecDepth 10000 in
set_option maxHeartbeats 4000000 in
theorem r_law1 {d : Nat} {g : Nat → Int} {ρ : List Nat} {h : mS} (hg : okG aBl g) (hH : okH rI0 g ρ h.1) (hρ : ρ.take 78 = ρ00) {T N W : List Int32} (hml : mlH h.1 T N W) {x b : Int32} (hx0 : 0 ≤ x.toInt) {fs : List Value} {w S : Int32} {BL OW : List Int32} (e47 : h.1[47]? = some (.inr (11, fs))) (f0 : fs[0]? = some (.int w)) (f4 : fs[4]? = some (.ref 51)) (f12 : fs[12]? = some (.ref 58)) (f21 : fs[21]? = some (.int S)) (e51 : h.1[51]? = some (.inl (0, .inl BL))) (e58 : h.1[58]? = some (.inl (0, .inl OW))) (hS : S.toInt = g 11) (hS0 : 0 ≤ g 11 ∧ g 11 ≤ 60) (lO : OW.length = 60) (lF : fs.length = 43) (hb : BL[x.toNatClampNeg]? = some b) {s : List Int32} (hfl : ∀ T1 N1, cfR (g 12) 1 T N W T1 N1 → (∃ n : Int32, N1[2]? = some n ∧ n.toInt = s.length) ∧ ∀ j : Nat, j < s.length → T1[120 + j]? = s[j]?) (h60 : s.length ≤ 60) (hf : fAt (nuM w b (Int32.ofNat (cntS OW (g 11).toNat x)) x) 13 s) : mR (d + 100) 121 [.ref 47, .int 1, .int x, .int (-1)] h (fun r h' => r = some (.int (eAt (nuM w b (Int32.ofNat (cntS OW (g 11).toNat x)) x) 13 s).1) ∧ h'.1[51]? = some (.inl (0, .inl BL)) ∧ ∃ fs', h'.1[47]? = some (.inr (11, fs')) ∧ fs'[4]? = some (.ref 51)) := by
  obtain ⟨T', N', W', ⟨m1, m2, m3⟩, ⟨lT, lN, lW⟩, rN, fs', xw, a1, ⟨f25, f26, f27, f0'⟩, hxw⟩ := ml_of hH hρ
  rw [hml.1] at m1
  cases m1
  rw [hml.2.1] at m2
  cases m2
  rw [hml.2.2] at m3
  cases m3
  rw [e47] at a1
  cases a1
  refine mR_ix [(0, .ref 47), (1, .int 1), (2, .int x), (3, .int (-1))] rfl rfl rfl ?_
  refine mE_aldn 1 rfl rfl rfl rfl ?_
  refine mE_ildn 2 rfl rfl rfl rfl ?_
  refine mE_cv [.int 1] [] rfl rfl rfl rfl e47 rfl ?_
  obtain ⟨r, hC, k5, rfl, T1, N1, hcf, hmlC, hoth⟩ := r_cifP (d := d + 98) hH hρ hml (q := 1) (by decide) (by decide) (Q := 1) (by decide)
  refine ⟨_, _, k5, ?_⟩
  obtain ⟨lT1, lN1⟩ := cf_len hcf lT lN
  obtain ⟨⟨n, hn, hns⟩, htx⟩ := hfl T1 N1 hcf
  have e47C : hC.1[47]? = some (.inr (11, fs)) := (hoth 47 (by decide) (by decide)).trans e47
  have e51C : hC.1[51]? = some (.inl (0, .inl BL)) := (hoth 51 (by decide) (by decide)).trans e51
  have e58C : hC.1[58]? = some (.inl (0, .inl OW)) := (hoth 58 (by decide) (by decide)).trans e58
  have l47 : 47 < hC.1.length := (List.getElem?_eq_some_iff.mp e47C).1
  obtain ⟨l, s0⟩ := hC
  dsimp only at hmlC e47C e51C e58C l47
  -- the fields, one behind another
  have at47 : ∀ (c : mC), (l.set 47 c)[47]? = some c := fun c => List.getElem?_set_self l47
  refine mE_aldn 6 rfl rfl rfl rfl ?_
  refine mE_ildn 7 rfl rfl rfl rfl ?_
  refine mE_if_ne_t 19 rfl (by decide) rfl ?_
  refine mE_ildn 20 rfl rfl rfl rfl ?_
  refine mE_pf 23 rfl e47C (by rw [lF]; rfl) rfl ?_
  refine mE_aldn 24 rfl rfl rfl rfl ?_
  refine mE_ildn 25 rfl rfl rfl rfl ?_
  refine mE_ico 26 1 rfl rfl rfl ?_
  refine mE_ic_ne_f 29 rfl (fun q => q rfl) rfl ?_
  refine mE_ico 30 (-1) rfl rfl rfl ?_
  refine mE_goto 34 rfl rfl ?_
  refine mE_pf 37 rfl (at47 _) (by rw [List.length_set, lF]; rfl) rfl ?_
  dsimp only
  rw [List.set_set]
  refine mE_aldn 38 rfl rfl rfl rfl ?_
  refine mE_ico 39 2 rfl rfl rfl ?_
  refine mE_ildn 40 rfl rfl rfl rfl ?_
  refine mE_imul 41 2 rfl (by decide) rfl ?_
  refine mE_bip 43 60 rfl rfl rfl ?_
  refine mE_imul 44 120 rfl (by decide) rfl ?_
  refine mE_pf 47 rfl (at47 _) (by rw [List.length_set, List.length_set, lF]; rfl) rfl ?_
  dsimp only
  rw [List.set_set]
  refine mE_aldn 48 rfl rfl rfl rfl ?_
  refine mE_aldn 49 rfl rfl rfl rfl ?_
  refine mE_gf 52 rfl rfl (at47 _) (List.getElem?_set_self (by rw [List.length_set, List.length_set, lF]; decide)) rfl ?_
  refine mE_pf 55 rfl (at47 _) (by rw [List.length_set, List.length_set, List.length_set, lF]; rfl) rfl ?_
  dsimp only
  rw [List.set_set]
  refine mE_aldn 56 rfl rfl rfl rfl ?_
  refine mE_aldn 57 rfl rfl rfl rfl ?_
  refine mE_gf 60 rfl rfl (at47 _) ((List.getElem?_set_ne (by decide)).trans (List.getElem?_set_self (by rw [List.length_set, List.length_set, lF]; decide))) rfl ?_
  refine mE_aldn 61 rfl rfl rfl rfl ?_
  refine mE_gf 64 rfl rfl (at47 _) ((List.getElem?_set_ne (by decide)).trans ((List.getElem?_set_ne (by decide)).trans ((List.getElem?_set_ne (by decide)).trans ((List.getElem?_set_ne (by decide)).trans f26)))) rfl ?_
  refine mE_ico 65 2 rfl rfl rfl ?_
  refine mE_ildn 66 rfl rfl rfl rfl ?_
  refine mE_imul 67 2 rfl (by decide) rfl ?_
  refine mE_ila 68 rfl ((List.getElem?_set_ne (by decide)).trans hmlC.2.1) (by decide) hn rfl ?_
  have e120 : (120 : Int32).toInt = 120 := by decide
  refine mE_iadd 69 (Int32.ofNat (120 + s.length)) rfl (Int32.toInt_inj.mp (by rw [add_id (by omega) (by omega), e120, hns, ofN (by omega)]; omega)) rfl ?_
  refine mE_pf 72 rfl (at47 _) (by rw [List.length_set, List.length_set, List.length_set, List.length_set, lF]; rfl) rfl ?_
  dsimp only
  rw [List.set_set]
  show mE _ _ _ _ _ (72, _, _, (l.set 47 (.inr (11, fL fs x s.length)), s0)) _
  refine mE_aldn 73 rfl rfl rfl rfl ?_
  refine mE_cv [] [] rfl rfl rfl rfl (at47 _) rfl ?_
  have lFL : (fL fs x s.length).length = 43 := by unfold fL; simp [lF]
  have g28 : (fL fs x s.length)[28]? = some (.int 120) := (List.getElem?_set_ne (by decide)).trans (List.getElem?_set_self (by simp [lF]))
  have hXe : (l.set 47 (.inr (11, fL fs x s.length)), s0) = hX l s0 (fL fs x s.length) (120 + s.length) s := by
    unfold hX
    rw [show 120 + s.length - s.length = 120 by omega]
    congr 4
    exact (List.ext_getElem? (fun j => by
      by_cases hj : 28 = j
      · subst hj
        rw [List.getElem?_set_self (by omega), g28]
        rfl
      · rw [List.getElem?_set_ne hj]))
  have hc : mvC l (fL fs x s.length) T1 (120 + s.length) := ⟨⟨l47, by omega, by omega⟩, (fL_ne (by decide)).trans f25, List.getElem?_set_self (by simp [lF]), hmlC.1⟩
  have hSx : Sx T1 (120 + s.length) s := ⟨by omega, fun i hi => by rw [show 120 + s.length - s.length + i = 120 + i by omega]; exact htx i hi⟩
  rw [hXe]
  have hn9 : ∀ (c : Int32) (t : List Int32), mR (d + 2) 119 [.ref 47, .int c] (hX l s0 (fL fs x s.length) (120 + s.length) t) (fun r h' => r = some (.int (nuM w b (Int32.ofNat (cntS OW (g 11).toNat x)) x c)) ∧ h' = hX l s0 (fL fs x s.length) (120 + s.length) t) := fun c t => by
    have gg : ∀ j : Nat, 28 ≠ j → ((fL fs x s.length).set 28 (.int (Int32.ofNat (120 + s.length - t.length))))[j]? = (fL fs x s.length)[j]? := fun j hj => List.getElem?_set_ne hj
    refine r_nameN (Sn := S) (BL := BL) (OW := OW) (S := (g 11).toNat) (hX_at hc t) ⟨⟨?_, ?_, (gg 0 (by decide)).trans ((fL_ne (by decide)).trans f0)⟩, ⟨(gg 4 (by decide)).trans ((fL_ne (by decide)).trans f4), (List.getElem?_set_ne (by decide)).trans e51C, fun q => by have := Int32.lt_iff_toInt_lt.mp q; have e0 : (0 : Int32).toInt = 0 := rfl; omega, hb⟩, ⟨(gg 21 (by decide)).trans ((fL_ne (by decide)).trans f21), (gg 12 (by decide)).trans ((fL_ne (by decide)).trans f12), (List.getElem?_set_ne (by decide)).trans e58C⟩, by omega, by omega, by omega⟩ c
    · rw [gg 32 (by decide)]
      exact (List.getElem?_set_ne (by decide)).trans ((List.getElem?_set_ne (by decide)).trans ((List.getElem?_set_ne (by decide)).trans (List.getElem?_set_self (by simp [lF]))))
    · rw [gg 31 (by decide)]
      exact (List.getElem?_set_ne (by decide)).trans ((List.getElem?_set_ne (by decide)).trans ((List.getElem?_set_ne (by decide)).trans ((List.getElem?_set_ne (by decide)).trans (List.getElem?_set_self (by simp [lF])))))
  obtain ⟨r1, hA, kA, rfl, rfl⟩ := MV_at (d := d + 1) (s0 := s0) hc hn9 13 s hSx hf
  obtain ⟨r2, hB, kB, e2, e3⟩ := mR_le (d' := d + 99) (P := fun r h' => r = some (.int (eAt (nuM w b (Int32.ofNat (cntS OW (g 11).toNat x)) x) 13 s).1) ∧ h' = hX l s0 (fL fs x s.length) (120 + s.length) (eAt (nuM w b (Int32.ofNat (cntS OW (g 11).toNat x)) x) 13 s).2) ⟨_, _, kA, rfl, rfl⟩ (by omega)
  subst e2
  subst e3
  refine ⟨_, _, kB, ?_⟩
  refine mE_iret rfl ⟨rfl, rfl, (List.getElem?_set_ne (by decide)).trans e51C, _, hX_at hc _, ?_⟩
  exact (List.getElem?_set_ne (by decide)).trans ((fL_ne (by decide)).trans f4)
