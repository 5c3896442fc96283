theorem set_last {l : List mC} {c c' : mC} : (l ++ [c]).set l.length c' = l ++ [c'] := by
  rw [List.set_append_right _ _ (Nat.le_refl _), Nat.sub_self]
  rfl
/-- a STRIP's number -/
def stN (h : List mC) (k : Nat) (n : Int32) : Prop := ∃ fs : List Value, h[k]? = some (.inr (7, fs)) ∧ fs[0]? = some (.int n)
def fF70 (ci j : Nat) : Bool := Nat.beq ci 7 && Nat.beq j 0
theorem fS_append : fSet fF70 [15] = true := by decide +kernel
theorem stN_fk {h h' : List mC} {k : Nat} {n : Int32} (a : stN h k n) (b : fk fF70 h h') : stN h' k n := by
  obtain ⟨fs, e1, e2⟩ := a
  obtain ⟨fs', e3, e4⟩ := b k 7 fs e1
  exact ⟨fs', e3, (e4 0 rfl).trans e2⟩
def sWa (c s : Int) (f e z v : Int32) (w : Int) : Prop := (sOk c f e z ∧ s < 60 ∧ v.toInt = s ∧ w = s + 1) ∨ (sOk c f e z ∧ 60 ≤ s ∧ v = -2 ∧ w = s) ∨ (¬ sOk c f e z ∧ v = -1 ∧ w = s)
set_option maxRecDepth 10000 in
set_option maxHeartbeats 4000000 in
theorem t_strip {d : Nat} (hall : CTall ci_early (d + 1)) {g : Nat → Int} {ρ : List Nat} {m : Nat} {x y z : Int32} {h : mS} (hg : okG aBl g) (hH : okH rI0 g ρ h.1) (hm : ρ[m]? = some 0) : mR (d + 3) 59 [.ref m, .int x, .int y, .int z] h (fun r h' => ∃ (v : Int32) (n' : Int) (ρ' : List Nat), r = some (.int v) ∧ okH rI0 (gup g 1 n') ρ' h'.1 ∧ sWa (g 0) (g 1) x y z v n' ∧ (n' = g 1 ∧ ρ' = ρ ∧ h' = h ∨ n' = g 1 + 1 ∧ ρ' = ρ ++ [26] ∧ h'.2 = h.2 + 14) ∧ (∀ k r : Nat, ρ[k]? = some r → r ∉ [0, 2, 23, 25, 26] → h'.1[k]? = h.1[k]?)) := by
  have hall2 : CTall ci_early (d + 2) := hall.le (Nat.le_succ _)
  have hg0 := hg 0 (0, 12) rfl
  have hg0 : 0 ≤ g 0 ∧ g 0 ≤ 12 := hg0
  have hg1 := hg 1 (0, 60) rfl
  have hg1 : 0 ≤ g 1 ∧ g 1 ≤ 60 := hg1
  have e0 : (0 : Int32).toInt = 0 := by decide
  have e1 : (1 : Int32).toInt = 1 := by decide
  have e2 : (2 : Int32).toInt = 2 := by decide
  have e9 : (9 : Int32).toInt = 9 := by decide
  have e60 : (60 : Int32).toInt = 60 := by decide
  obtain ⟨fs, c1, c2, c3⟩ := fld hH hm rO_eq
  obtain ⟨v10, d1, c, rfl, d2⟩ := c3 10 (1, 0, 0) rfl
  have d2 : c.toInt = g 0 + 0 := d2
  obtain ⟨v11, d3, s, rfl, d4⟩ := c3 11 (1, 1, 0) rfl
  have d4 : s.toInt = g 1 + 0 := d4
  have stay : ∀ v : Int32, sWa (g 0) (g 1) x y z v (g 1) → ∃ (v' : Int32) (n' : Int) (ρ' : List Nat), some (Value.int v) = some (.int v') ∧ okH rI0 (gup g 1 n') ρ' h.1 ∧ sWa (g 0) (g 1) x y z v' n' ∧ (n' = g 1 ∧ ρ' = ρ ∧ h = h ∨ n' = g 1 + 1 ∧ ρ' = ρ ++ [26] ∧ h.2 = h.2 + 14) ∧ (∀ k r : Nat, ρ[k]? = some r → r ∉ [0, 2, 23, 25, 26] → h.1[k]? = h.1[k]?) := fun v hv => ⟨v, g 1, ρ, rfl, by rw [gup_same]; exact hH, hv, Or.inl ⟨rfl, rfl, rfl⟩, fun _ _ _ _ => rfl⟩
  have no : ∀ b : Nat, ¬ sOk (g 0) x y z → mE (mcall (d + 2)) none 5 (mgd 125 mtX10_strip) (b + 2) (27, [(0, .ref m), (1, .int x), (2, .int y), (3, .int z)], [], h) (fun r h' => mretok (some .int) r = true ∧ ∃ (v : Int32) (n' : Int) (ρ' : List Nat), r = some (.int v) ∧ okH rI0 (gup g 1 n') ρ' h'.1 ∧ sWa (g 0) (g 1) x y z v n' ∧ (n' = g 1 ∧ ρ' = ρ ∧ h' = h ∨ n' = g 1 + 1 ∧ ρ' = ρ ++ [26] ∧ h'.2 = h.2 + 14) ∧ (∀ k r : Nat, ρ[k]? = some r → r ∉ [0, 2, 23, 25, 26] → h'.1[k]? = h.1[k]?)) := by
    intro b hn
    refine mE_ico 28 (-1) rfl rfl rfl ?_
    exact mE_iret rfl ⟨rfl, stay (-1) (Or.inr (Or.inr ⟨hn, rfl, rfl⟩))⟩
  refine mR_ix [(0, .ref m), (1, .int x), (2, .int y), (3, .int z)] rfl rfl rfl ?_
  refine mE_ildn 1 rfl rfl rfl rfl ?_
  refine mE_ico 2 0 rfl rfl rfl ?_
  refine mE_ico 3 2 rfl rfl rfl ?_
  refine mE_cs [.int x, .int 0, .int 2] [] rfl rfl rfl rfl rfl ?_
  obtain ⟨r, hh, k1, rfl, e9h⟩ := r_within (d + 1) x 0 2 h
  subst e9h
  refine ⟨_, _, k1, ?_⟩
  refine mE_if_eq rfl (fun hx => ?_) (fun hx => ?_)
  · have hx := bit0_iff.mp hx
    rw [within_iff, e0, e2] at hx
    exact mE_le (no 0 (fun q => hx q.1)) (Nat.le_of_ble_eq_true rfl)
  have hx := Classical.not_not.mp (fun q => hx (bit0_iff.mpr q))
  rw [within_iff, e0, e2] at hx
  refine mE_ildn 10 rfl rfl rfl rfl ?_
  refine mE_ico 11 1 rfl rfl rfl ?_
  refine mE_bip 13 9 rfl rfl rfl ?_
  refine mE_cs [.int y, .int 1, .int 9] [] rfl rfl rfl rfl rfl ?_
  obtain ⟨r, hh2, k2, rfl, e9h2⟩ := r_within (d + 1) y 1 9 hh
  subst e9h2
  refine ⟨_, _, k2, ?_⟩
  refine mE_if_eq rfl (fun hy => ?_) (fun hy => ?_)
  · have hy := bit0_iff.mp hy
    rw [within_iff, e1, e9] at hy
    exact mE_le (no 0 (fun q => hy q.2.1)) (Nat.le_of_ble_eq_true rfl)
  have hy := Classical.not_not.mp (fun q => hy (bit0_iff.mpr q))
  rw [within_iff, e1, e9] at hy
  refine mE_aldn 20 rfl rfl rfl rfl ?_
  refine mE_ildn 21 rfl rfl rfl rfl ?_
  refine mE_cv [.int z] [] rfl rfl rfl rfl c1 rfl ?_
  obtain ⟨r, hh3, k3, rfl, e9h3⟩ := r_isX d 83 10 z c m hh2 fs c1 d1 (by omega) (Or.inl ⟨rfl, rfl⟩)
  subst e9h3
  refine ⟨_, _, k3, ?_⟩
  refine mE_if_ne rfl (fun hz => ?_) (fun hz => ?_)
  rotate_left
  · have hz := bit0_iff.mp (Classical.not_not.mp hz)
    exact mE_le (no 0 (fun q => hz ⟨q.2.2.1, by have := q.2.2.2; omega⟩)) (Nat.le_of_ble_eq_true rfl)
  have hz := Classical.not_not.mp (fun q => hz (bit0_iff.mpr q))
  have hok : sOk (g 0) x y z := ⟨hx, hy, hz.1, by omega⟩
  refine mE_aldn 30 rfl rfl rfl rfl ?_
  refine mE_gf 33 rfl rfl c1 d3 rfl ?_
  refine mE_bip 35 60 rfl rfl rfl ?_
  refine mE_ic_lt rfl (fun hc => ?_) (fun hc => ?_)
  rotate_left
  · have hc := Int32.le_iff_toInt_le.mp (Int32.not_lt.mp hc)
    refine mE_bip 40 (-2) rfl rfl rfl ?_
    exact mE_iret rfl ⟨rfl, stay (-2) (Or.inr (Or.inl ⟨hok, by omega, rfl, rfl⟩))⟩
  have hc := Int32.lt_iff_toInt_lt.mp hc
  have hs60 : g 1 < 60 := by omega
  obtain ⟨v0, f1, ha, rfl, f2⟩ := c3 0 (3, 1, 0) rfl
  have f2 : ρ[ha]? = some 1 := f2
  obtain ⟨vf, f3, fa, rfl, f4⟩ := c3 2 (3, 3, 0) rfl
  have f4 : ρ[fa]? = some 3 := f4
  obtain ⟨cA, a1, qs, rfl, a2, a3⟩ := hH.at f2 (R := .inr (.inr (2, 12, 25, 2))) rfl
  obtain ⟨cF, b1, ps, rfl, b2, b3⟩ := hH.at f4 (R := .inr (.inr (4, 3, 23, 1))) rfl
  have zc : (z.toNatClampNeg : Int) = z.toInt := by
    show ((z.toInt.toNat : Nat) : Int) = z.toInt
    omega
  have xc : (x.toNatClampNeg : Int) = x.toInt := by
    show ((x.toInt.toNat : Nat) : Int) = x.toInt
    omega
  have znn : ¬ z < 0 := fun q => by have := Int32.lt_iff_toInt_lt.mp q; omega
  have xnn : ¬ x < 0 := fun q => by have := Int32.lt_iff_toInt_lt.mp q; omega
  have zl : z.toNatClampNeg < qs.length := by rw [a2]; omega
  have xl : x.toNatClampNeg < ps.length := by rw [b2]; omega
  have hq : qs[z.toNatClampNeg]? = some (qs[z.toNatClampNeg]'zl) := List.getElem?_eq_getElem zl
  have hp : ps[x.toNatClampNeg]? = some (ps[x.toNatClampNeg]'xl) := List.getElem?_eq_getElem xl
  obtain ⟨kh, hq, hkh⟩ : ∃ kh, qs[z.toNatClampNeg]? = some (some kh) ∧ ρ[kh]? = some 25 := by
    rcases a3 _ _ hq with ⟨-, q⟩ | ⟨k, q1, q2⟩
    · exfalso
      have q : g 0 ≤ (z.toNatClampNeg : Int) := q
      omega
    · rw [q1] at hq
      exact ⟨k, hq, q2⟩
  obtain ⟨kf, hp, hkf⟩ : ∃ kf, ps[x.toNatClampNeg]? = some (some kf) ∧ ρ[kf]? = some 23 := by
    rcases b3 _ _ hp with ⟨-, q⟩ | ⟨k, q1, q2⟩
    · exact q.elim
    · rw [q1] at hp
      exact ⟨k, hp, q2⟩
  obtain ⟨ff, g1', -, g3'⟩ := fld hH hkf (show rI0 23 = some (.inl (3, rOf 23)) from rfl)
  obtain ⟨w, g4, g5⟩ := g3' 0 (4, 26, 0) rfl
  have hw1 : misref w = true := by rcases g5 with rfl | ⟨k, rfl, -⟩ <;> rfl
  have hw2 : mfit (mtyOf 7 3) w = true := by rcases g5 with rfl | ⟨k, rfl, -⟩ <;> rfl
  have hw3 : mone w = true := hasT_mone g5
  refine mE_new 44 hh3.1.length [.int 0, .int 0, .int 0, .null, .null, .null, .int 0, .int 0, .int 0, .int 0, .int 0, .int 0, .int 0, .int 0] 14 rfl rfl rfl rfl rfl ?_
  refine mE_dup 45 rfl rfl rfl ?_
  refine mE_aldn 46 rfl rfl rfl rfl ?_
  refine mE_gf 49 rfl rfl (mg_app2 c1) d3 rfl ?_
  refine mE_ildn 50 rfl rfl rfl rfl ?_
  refine mE_aldn 51 rfl rfl rfl rfl ?_
  refine mE_gf 54 rfl rfl (mg_app2 c1) f1 rfl ?_
  refine mE_ildn 55 rfl rfl rfl rfl ?_
  refine mE_qla 56 rfl (mg_app2 a1) rfl znn hq rfl ?_
  refine mE_ildn 57 rfl rfl rfl rfl ?_
  refine mE_aldn 58 rfl rfl rfl rfl ?_
  refine mE_gf 61 rfl rfl (mg_app2 c1) f3 rfl ?_
  refine mE_ildn 62 rfl rfl rfl rfl ?_
  refine mE_qla 63 rfl (mg_app2 b1) rfl xnn hp rfl ?_
  refine mE_gf 66 rfl rfl (mg_app2 g1') g4 rfl ?_
  refine mE_ci [.int s, .int y, .ref kh, .int x, w] [.ref hh3.1.length] (fs := [.int 0, .int 0, .int 0, .null, .null, .null, .int 0, .int 0, .int 0, .int 0, .int 0, .int 0, .int 0, .int 0]) rfl rfl rfl rfl (by
    show (hh3.1 ++ [_])[hh3.1.length]? = _
    simp
    rfl) (by simp only [List.take, List.all_cons, List.all_nil, hw3]; rfl) ?_
  obtain ⟨r, h3, k4, rfl, rfl⟩ := r_stripInit (d := d + 1) (l := hh3.1 ++ [.inr (7, [.int 0, .int 0, .int 0, .null, .null, .null, .int 0, .int 0, .int 0, .int 0, .int 0, .int 0, .int 0, .int 0])]) (s := hh3.2 + 14) (k := hh3.1.length) (hh := kh) (a := s) (b := y) (c := x) (w := w) (by simp) hw1 hw2 hw3
  rw [set_last] at k4
  refine ⟨_, _, k4, ?_⟩
  rw [set_last]
  have hcN : okC g (ρ ++ [26]) (.inl (7, rS)) (.inr (7, [.int s, .int y, .int x, w, .null, .ref kh, .int 3, .int 0, .int 1, .int 0, .int 0, .int 0, .int 0, .int 0])) := by
    refine ⟨_, rfl, rfl, fun j t v q1 q2 => ?_⟩
    have zz : ∀ (t' : aV) (v' : Value), some t' = some t → some v' = some v → hasT g (ρ ++ [26]) t' v' → hasT g (ρ ++ [26]) t v := fun t' v' q1 q2 q3 => by cases q1; cases q2; exact q3
    match j, q1, q2 with
    | 0, q1, q2 => exact zz a32 _ q1 q2 (a32_ok _)
    | 1, q1, q2 => exact zz a32 _ q1 q2 (a32_ok _)
    | 2, q1, q2 => exact zz a32 _ q1 q2 (a32_ok _)
    | 3, q1, q2 => exact zz (4, 26, 0) _ q1 q2 (hasT_app g5)
    | 4, q1, q2 => exact zz (4, 26, 0) _ q1 q2 (Or.inl rfl)
    | 5, q1, q2 => exact zz (3, 25, 0) _ q1 q2 ⟨kh, rfl, app_at hkh⟩
    | 6, q1, q2 => exact zz a32 _ q1 q2 (a32_ok _)
    | 7, q1, q2 => exact zz a32 _ q1 q2 (a32_ok _)
    | 8, q1, q2 => exact zz a32 _ q1 q2 (a32_ok _)
    | 9, q1, q2 => exact zz (0, 0, 1) _ q1 q2 ⟨0, rfl, by decide, by decide⟩
    | 10, q1, q2 => exact zz (0, 0, 1) _ q1 q2 ⟨0, rfl, by decide, by decide⟩
    | 11, q1, q2 => exact zz a32 _ q1 q2 (a32_ok _)
    | 12, q1, q2 => exact zz a32 _ q1 q2 (a32_ok _)
    | 13, q1, q2 => exact zz a32 _ q1 q2 (a32_ok _)
    | j + 14, q1, q2 => cases q2
  have hH1 : okH rI0 g (ρ ++ [26]) (hh3.1 ++ [.inr (7, [.int s, .int y, .int x, w, .null, .ref kh, .int 3, .int 0, .int 1, .int 0, .int 0, .int 0, .int 0, .int 0])]) := okH_app hH rS_eq (by decide) hcN
  have hL : (ρ ++ [26])[hh3.1.length]? = some 26 := by rw [← hH.1]; simp
  have hm1 : (ρ ++ [26])[m]? = some 0 := app_at hm
  refine mE_ast 71 [(4, .ref hh3.1.length), (0, .ref m), (1, .int x), (2, .int y), (3, .int z)] rfl rfl rfl rfl ?_
  -- gain
  have hlen1 : (hh3.1 ++ [.inr (7, [.int s, .int y, .int x, w, .null, .ref kh, .int 3, .int 0, .int 1, .int 0, .int 0, .int 0, .int 0, .int 0])] : List mC)[hh3.1.length]? = some (.inr (7, [.int s, .int y, .int x, w, .null, .ref kh, .int 3, .int 0, .int 1, .int 0, .int 0, .int 0, .int 0, .int 0])) := by simp
  refine mE_aldn 72 rfl rfl rfl rfl ?_
  refine mE_gf 75 rfl rfl (mg_app2 c1) f1 rfl ?_
  refine mE_ildn 76 rfl rfl rfl rfl ?_
  refine mE_qla 77 rfl (mg_app2 a1) rfl znn hq rfl ?_
  refine mE_ald 79 rfl rfl rfl rfl ?_
  obtain ⟨fkh, p1, -, -⟩ := fld hH1 (app_at hkh) (show rI0 25 = some (.inl (4, rOf 25)) from rfl)
  refine mE_cv [.ref hh3.1.length] [] rfl rfl rfl rfl p1 rfl ?_
  obtain ⟨r, h4, k8, hH4, hF4, rfl⟩ := hall2 ci_House_gain _ rfl g (ρ ++ [26]) [.ref kh, .ref hh3.1.length] (hh3.1 ++ [.inr (7, [.int s, .int y, .int x, w, .null, .ref kh, .int 3, .int 0, .int 1, .int 0, .int 0, .int 0, .int 0, .int 0])], hh3.2 + 14) hg hH1 ⟨⟨kh, rfl, app_at hkh⟩, ⟨_, rfl, hL⟩, trivial⟩ (fun q hq => by cases hq)
  refine ⟨_, _, k8, ?_⟩
  have hN4 : stN h4.1 hh3.1.length s := ⟨_, (hF4.1 _ _ hL (by decide)).trans hlen1, rfl⟩
  -- append
  obtain ⟨fs4, t1, -, t3⟩ := fld hH4 hm1 rO_eq
  obtain ⟨vf4, t4, fa4, rfl, t5⟩ := t3 2 (3, 3, 0) rfl
  have t5 : (ρ ++ [26])[fa4]? = some 3 := t5
  obtain ⟨cF4, t6, ps4, rfl, t7, t8⟩ := hH4.at t5 (R := .inr (.inr (4, 3, 23, 1))) rfl
  have xl4 : x.toNatClampNeg < ps4.length := by rw [t7]; omega
  have hp4 : ps4[x.toNatClampNeg]? = some (ps4[x.toNatClampNeg]'xl4) := List.getElem?_eq_getElem xl4
  obtain ⟨kf4, hp4, hkf4⟩ : ∃ kf, ps4[x.toNatClampNeg]? = some (some kf) ∧ (ρ ++ [26])[kf]? = some 23 := by
    rcases t8 _ _ hp4 with ⟨-, q⟩ | ⟨k, q1, q2⟩
    · exact q.elim
    · rw [q1] at hp4
      exact ⟨k, hp4, q2⟩
  obtain ⟨ff4, u1', -, u3'⟩ := fld hH4 hkf4 (show rI0 23 = some (.inl (3, rOf 23)) from rfl)
  refine mE_aldn 83 rfl rfl rfl rfl ?_
  refine mE_gf 86 rfl rfl t1 t4 rfl ?_
  refine mE_ildn 87 rfl rfl rfl rfl ?_
  refine mE_qla 88 rfl t6 rfl xnn hp4 rfl ?_
  refine mE_ald 90 rfl rfl rfl rfl ?_
  refine mE_cv [.ref hh3.1.length] [] rfl rfl rfl rfl u1' rfl ?_
  obtain ⟨r, h5, k9, hH5, hF5, rfl⟩ := hall2 ci_Field_append _ rfl g (ρ ++ [26]) [.ref kf4, .ref hh3.1.length] h4 hg hH4 ⟨⟨kf4, rfl, hkf4⟩, ⟨_, rfl, hL⟩, trivial⟩ (fun q hq => by cases hq)
  refine ⟨_, _, k9, ?_⟩
  have hN5 : stN h5.1 hh3.1.length s := stN_fk hN4 (mcall_fk fS_append _ _ _ _ _ _ (by decide) k9)
  have hF45 : okFr (ρ ++ [26]) [23, 25, 26] (hh3.1 ++ [.inr (7, [.int s, .int y, .int x, w, .null, .ref kh, .int 3, .int 0, .int 1, .int 0, .int 0, .int 0, .int 0, .int 0])], hh3.2 + 14) h5 := (hF4.mono rfl).trans (hF5.mono rfl)
  have r3 : (ρ ++ [26])[hh3.1.length]? = some 26 := hL
  obtain ⟨fs5, u1, -, u3⟩ := fld hH5 hm1 rO_eq
  obtain ⟨v1, u4, sa, rfl, u5⟩ := u3 1 (3, 2, 0) rfl
  have u5 : (ρ ++ [26])[sa]? = some 2 := u5
  obtain ⟨v11, u6, s5, rfl, u7⟩ := u3 11 (1, 1, 0) rfl
  have u7 : s5.toInt = g 1 + 0 := u7
  obtain ⟨cS, w1, ts, rfl, w2, w3⟩ := hH5.at u5 (R := .inr (.inr (3, 60, 26, 3))) rfl
  obtain ⟨fk5, w4, -, -⟩ := fld hH5 r3 rS_eq
  have en : s5.toNatClampNeg = (g 1).toNat := by
    show s5.toInt.toNat = _
    rw [u7]
    congr 1
    omega
  have hnn : ¬ (s5 < 0 ∨ ts.length ≤ (g 1).toNat) := by
    rintro (q | q)
    · have := Int32.lt_iff_toInt_lt.mp q; omega
    · omega
  refine mE_aldn 94 rfl rfl rfl rfl ?_
  refine mE_gf 97 rfl rfl u1 u4 rfl ?_
  refine mE_aldn 98 rfl rfl rfl rfl ?_
  refine mE_gf 101 rfl rfl u1 u6 rfl ?_
  refine mE_ald 103 rfl rfl rfl rfl ?_
  refine mE_qsa 104 (g 1).toNat rfl w1 w4 rfl en hnn rfl ?_
  have hH6 : okH rI0 g (ρ ++ [26]) (h5.1.set sa (.inl (3, .inr (ts.set (g 1).toNat (some hh3.1.length))))) := by
    refine hH5.set u5 (R := .inr (.inr (3, 60, 26, 3))) rfl ⟨_, rfl, by rw [List.length_set]; exact w2, fun j q hj => ?_⟩
    by_cases he : (g 1).toNat = j
    · subst he
      rw [List.getElem?_set_self (by rw [w2]; omega)] at hj
      cases hj
      exact Or.inr ⟨_, rfl, r3⟩
    · rw [List.getElem?_set_ne he] at hj
      exact w3 j q hj
  have hF6 : okFr (ρ ++ [26]) [0, 2, 23, 25, 26] (hh3.1 ++ [.inr (7, [.int s, .int y, .int x, w, .null, .ref kh, .int 3, .int 0, .int 1, .int 0, .int 0, .int 0, .int 0, .int 0])], hh3.2 + 14) (h5.1.set sa (.inl (3, .inr (ts.set (g 1).toNat (some hh3.1.length)))), h5.2) := (hF45.mono rfl).trans (okFr.set okFr.rfl u5 (by decide))
  have hne1 : sa ≠ hh3.1.length := fun e => by rw [e, r3] at u5; cases u5
  have hne2 : m ≠ hh3.1.length := fun e => by rw [e, r3] at hm1; cases hm1
  have hN6 : stN (h5.1.set sa (.inl (3, .inr (ts.set (g 1).toNat (some hh3.1.length))))) hh3.1.length s := by
    obtain ⟨fsn, n1, n2⟩ := hN5
    exact ⟨fsn, (List.getElem?_set_ne hne1).trans n1, n2⟩
  obtain ⟨fs6, y1, y2, y3⟩ := fld hH6 hm1 rO_eq
  obtain ⟨v6, y4, s6, rfl, y5⟩ := y3 11 (1, 1, 0) rfl
  have y5 : s6.toInt = g 1 + 0 := y5
  have y6 : (s6 + 1).toInt = s6.toInt + 1 := by rw [add_id (by omega) (by omega), e1]
  have hl6 : 11 < fs6.length := (List.getElem?_eq_some_iff.mp y4).1
  have hls : sa < h5.1.length := (List.getElem?_eq_some_iff.mp w1).1
  refine mE_aldn 105 rfl rfl rfl rfl ?_
  refine mE_dup 106 rfl rfl rfl ?_
  refine mE_gf 109 rfl rfl y1 y4 rfl ?_
  refine mE_ico 110 1 rfl rfl rfl ?_
  refine mE_iadd 111 (s6 + 1) rfl rfl rfl ?_
  refine mE_pf 114 rfl y1 (by show (true && Nat.blt 11 fs6.length) = true; rw [Nat.blt_eq.mpr hl6]; rfl) rfl ?_
  have hsp : aspk 1 = [0, 2] := by decide +kernel
  have hH7 : okH rI0 (gup g 1 (g 1 + 1)) (ρ ++ [26]) ((h5.1.set sa (.inl (3, .inr (ts.set (g 1).toNat (some hh3.1.length))))).set m (.inr (10, fs6.set 11 (.int (s6 + 1))))) := by
    refine okH_pset hH6 hm1 rO_eq (j := 11) (p := 1) rfl rfl y1 (by omega) (fun k r R cc hne q1 q2 q3 q4 => ?_)
    have hr : r ∈ aspk 1 := aspk_ok q3 q4
    rw [hsp] at hr
    rcases List.mem_cons.mp hr with rfl | hr
    · exact absurd (one_of hH6 q1 hm1 (by decide)) hne
    · rcases List.mem_cons.mp hr with rfl | hr
      · have q3 : some ((.inr (.inr (3, 60, 26, 3))) : aR) = some R := q3
        cases q3
        have hka : k = sa := one_of hH6 q1 u5 (by decide)
        subst hka
        rw [List.getElem?_set_self hls] at q2
        cases q2
        refine ⟨_, rfl, by rw [List.length_set]; exact w2, fun j q hj => ?_⟩
        by_cases he : (g 1).toNat = j
        · subst he
          rw [List.getElem?_set_self (by rw [w2]; omega)] at hj
          cases hj
          exact Or.inr ⟨_, rfl, r3⟩
        · rw [List.getElem?_set_ne he] at hj
          rcases w3 j q hj with ⟨z1, z2⟩ | z
          · refine Or.inl ⟨z1, ?_⟩
            have z2 : g 1 ≤ (j : Int) := z2
            show gup g 1 (g 1 + 1) 1 ≤ (j : Int)
            rw [gup_self]
            omega
          · exact Or.inr z
      · cases hr
  have hg7 : okG aBl (gup g 1 (g 1 + 1)) := okG_up hg rfl (by show 0 ≤ g 1 + 1; omega) (by show g 1 + 1 ≤ 60; omega)
  have hF7 : okFr (ρ ++ [26]) [0, 2, 23, 25, 26] (hh3.1 ++ [.inr (7, [.int s, .int y, .int x, w, .null, .ref kh, .int 3, .int 0, .int 1, .int 0, .int 0, .int 0, .int 0, .int 0])], hh3.2 + 14) ((h5.1.set sa (.inl (3, .inr (ts.set (g 1).toNat (some hh3.1.length))))).set m (.inr (10, fs6.set 11 (.int (s6 + 1)))), h5.2) := hF6.set hm1 (by decide)
  have hN7 : stN ((h5.1.set sa (.inl (3, .inr (ts.set (g 1).toNat (some hh3.1.length))))).set m (.inr (10, fs6.set 11 (.int (s6 + 1))))) hh3.1.length s := by
    obtain ⟨fsn, n1, n2⟩ := hN6
    exact ⟨fsn, (List.getElem?_set_ne hne2).trans n1, n2⟩
  obtain ⟨fs7, z1, -, -⟩ := fld hH7 hm1 rO_eq
  refine mE_aldn 115 rfl rfl rfl rfl ?_
  refine mE_cv [] [] rfl rfl rfl rfl z1 rfl ?_
  obtain ⟨r, h8, k5, k6, k7, v8, rfl, ⟨x8, rfl, -⟩, -⟩ := hall2 ci_OpenFields_settleRights _ rfl (gup g 1 (g 1 + 1)) (ρ ++ [26]) [.ref m] ((h5.1.set sa (.inl (3, .inr (ts.set (g 1).toNat (some hh3.1.length))))).set m (.inr (10, fs6.set 11 (.int (s6 + 1)))), h5.2) hg7 hH7 ⟨⟨m, rfl, hm1⟩, trivial⟩ (fun q hq => by cases hq)
  refine ⟨_, _, k5, ?_⟩
  obtain ⟨fs8, o1, o4⟩ := hN7
  have o1 : h8.1[hh3.1.length]? = some (.inr (7, fs8)) := (k7.1 _ _ r3 (by decide)).trans o1
  refine mE_pop 119 rfl rfl rfl ?_
  refine mE_ald 121 rfl rfl rfl rfl ?_
  refine mE_gf 124 rfl rfl o1 o4 rfl ?_
  have hF8 := hF7.trans (k7.mono (md' := [0, 2, 23, 25, 26]) rfl)
  refine mE_iret rfl ⟨rfl, s, g 1 + 1, ρ ++ [26], rfl, k6, Or.inl ⟨hok, hs60, by omega, rfl⟩, Or.inr ⟨rfl, rfl, hF8.2.1⟩, fun k r q1 q2 => ?_⟩
  rw [hF8.1 k r (app_at q1) q2]
  exact List.getElem?_append_left (by rw [← hH.1]; exact (List.getElem?_eq_some_iff.mp q1).1)
