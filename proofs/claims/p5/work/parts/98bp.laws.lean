/-! by-laws of the class, functionally: announce, reach, a week -/
abbrev lwC (a b : Nat) (wt fr : Int32) : mC := .inr (1, [.ref a, .ref b, .int wt, .int fr])
def rc (w : Int) (a b : Nat) (wt fr : Int32) : mC := if ¬ wt = 0 ∧ fr.toInt ≤ w then lwC b a 0 fr else lwC a b wt fr
set_option maxRecDepth 10000 in
set_option maxHeartbeats 2000000 in
theorem r_reachN {d : Nat} {l : List mC} {s k a b : Nat} {wt fr w : Int32} (hL : k < l.length) : mR (d + 1) 6 [.ref k, .int w] (l.set k (lwC a b wt fr), s) (fun r h' => r = none ∧ h' = (l.set k (rc w.toInt a b wt fr), s)) := by
  refine mR_ix [(0, .ref k), (1, .int w)] rfl rfl rfl ?_
  refine mE_aldn 1 rfl rfl rfl rfl ?_
  refine p_get rfl rfl rfl hL ?_
  refine mE_if_eq rfl (fun h4 => ?_) (fun h4 => ?_)
  · exact mE_vret rfl ⟨rfl, rfl, by unfold rc; rw [if_neg (fun q => q.1 h4)]⟩
  · refine mE_aldn 8 rfl rfl rfl rfl ?_
    refine p_get rfl rfl rfl hL ?_
    refine mE_ildn 12 rfl rfl rfl rfl ?_
    refine mE_ic_gt rfl (fun h12 => ?_) (fun h12 => ?_)
    · exact mE_vret rfl ⟨rfl, rfl, by unfold rc; rw [if_neg (fun q => by have := Int32.lt_iff_toInt_lt.mp h12; have := q.2; omega)]⟩
    · refine mE_aldn 16 rfl rfl rfl rfl ?_
      refine p_get rfl rfl rfl hL ?_
      refine mE_astn 20 [(2, .ref a), (0, .ref k), (1, .int w)] rfl rfl rfl rfl ?_
      refine mE_aldn 21 rfl rfl rfl rfl ?_
      refine mE_aldn 22 rfl rfl rfl rfl ?_
      refine p_get rfl rfl rfl hL ?_
      refine p_put [.ref b, .ref b, .int wt, .int fr] rfl rfl rfl rfl hL ?_
      refine mE_aldn 29 rfl rfl rfl rfl ?_
      refine mE_aldn 30 rfl rfl rfl rfl ?_
      refine p_put [.ref b, .ref a, .int wt, .int fr] rfl rfl rfl rfl hL ?_
      refine mE_aldn 34 rfl rfl rfl rfl ?_
      refine mE_ico 35 (0) rfl rfl rfl ?_
      refine p_put [.ref b, .ref a, .int 0, .int fr] rfl rfl rfl rfl hL ?_
      exact mE_vret rfl ⟨rfl, rfl, by unfold rc; rw [if_pos ⟨h4, Int32.le_iff_toInt_le.mp (Int32.not_lt.mp h12)⟩]⟩
theorem r_reach {d : Nat} {h : mS} {k a b : Nat} {wt fr w : Int32} (e : h.1[k]? = some (lwC a b wt fr)) : mR (d + 1) 6 [.ref k, .int w] h (fun r h' => r = none ∧ h' = (h.1.set k (rc w.toInt a b wt fr), h.2)) := by
  have F := r_reachN (d := d) (l := h.1) (s := h.2) (a := a) (b := b) (wt := wt) (fr := fr) (w := w) (List.getElem?_eq_some_iff.mp e).1
  rw [set_self8 e] at F
  exact F
set_option maxRecDepth 10000 in
set_option maxHeartbeats 2000000 in
theorem r_annN {d : Nat} {l : List mC} {s k a b kd : Nat} {wt fr y : Int32} (hL : k < l.length) : mR (d + 1) 5 [.ref k, .ref kd, .int y] (l.set k (lwC a b wt fr), s) (fun r h' => r = some (.ref b) ∧ h' = (l.set k (lwC a kd 1 y), s)) := by
  refine mR_ix [(0, .ref k), (1, .ref kd), (2, .int y)] rfl rfl rfl ?_
  refine mE_aldn 1 rfl rfl rfl rfl ?_
  refine p_get rfl rfl rfl hL ?_
  refine mE_astn 5 [(3, .ref b), (0, .ref k), (1, .ref kd), (2, .int y)] rfl rfl rfl rfl ?_
  refine mE_aldn 6 rfl rfl rfl rfl ?_
  refine mE_aldn 7 rfl rfl rfl rfl ?_
  refine p_put [.ref a, .ref kd, .int wt, .int fr] rfl rfl rfl rfl hL ?_
  refine mE_aldn 11 rfl rfl rfl rfl ?_
  refine mE_ildn 12 rfl rfl rfl rfl ?_
  refine p_put [.ref a, .ref kd, .int wt, .int y] rfl rfl rfl rfl hL ?_
  refine mE_aldn 16 rfl rfl rfl rfl ?_
  refine mE_ico 17 (1) rfl rfl rfl ?_
  refine p_put [.ref a, .ref kd, .int 1, .int y] rfl rfl rfl rfl hL ?_
  refine mE_aldn 21 rfl rfl rfl rfl ?_
  exact mE_arr rfl ⟨rfl, rfl, rfl⟩
theorem r_ann {d : Nat} {h : mS} {k a b kd : Nat} {wt fr y : Int32} (e : h.1[k]? = some (lwC a b wt fr)) : mR (d + 1) 5 [.ref k, .ref kd, .int y] h (fun r h' => r = some (.ref b) ∧ h' = (h.1.set k (lwC a kd 1 y), h.2)) := by
  have F := r_annN (d := d) (l := h.1) (s := h.2) (a := a) (b := b) (kd := kd) (wt := wt) (fr := fr) (y := y) (List.getElem?_eq_some_iff.mp e).1
  rw [set_self8 e] at F
  exact F
/-- the law cells -/
def lwH (h : List mC) (A B : Nat → Nat) (WT FR : Nat → Int32) : Prop := ∀ q : Nat, q < 3 → h[26 + 7 * q]? = some (lwC (A q) (B q) (WT q) (FR q))
set_option maxRecDepth 10000 in
set_option maxHeartbeats 2000000 in
theorem r_bw {d : Nat} (hall : CTall ci_early d) {g : Nat → Int} {ρ : List Nat} (hg : okG aBl g) {h : mS} (hH : okH rI0 g ρ h.1) (hρ : ρ.take 78 = ρ00) (h2 : g 2 ≤ 1999) {A B : Nat → Nat} {WT FR : Nat → Int32} (hl : lwH h.1 A B WT FR) (h5 : h.1[5]? = some (.inl (5, .inr [some 26, some 33, some 40]))) : mR (d + 1) 92 [.ref 0] h (fun r h' => r = none ∧ ∀ q : Nat, q < 3 → h'.1[26 + 7 * q]? = some (rc (g 2 + 1) (A q) (B q) (WT q) (FR q))) := by
  have e1 : (1 : Int32).toInt = 1 := by decide
  have hg2 := hg 2 (0, 2000) rfl
  have hg2 : 0 ≤ g 2 ∧ g 2 ≤ 2000 := hg2
  have hm : ρ[0]? = some 0 := at_rho hρ (by decide) rfl
  have r5 : ρ[5]? = some 5 := at_rho hρ (by decide) rfl
  have r26 : ρ[26]? = some 24 := at_rho hρ (by decide) rfl
  have r33 : ρ[33]? = some 24 := at_rho hρ (by decide) rfl
  have r40 : ρ[40]? = some 24 := at_rho hρ (by decide) rfl
  obtain ⟨fs, a, c1, ⟨f5, f6, f4, d1⟩, d2⟩ := cx_C hH hρ
  have d3 : (a + 1).toInt = a.toInt + 1 := by rw [add_id (by omega) (by omega), e1]
  have hlf : 12 < fs.length := (List.getElem?_eq_some_iff.mp d1).1
  have hg' : okG aBl (gup g 2 (g 2 + 1)) := okG_up hg rfl (by show 0 ≤ g 2 + 1; omega) (by show g 2 + 1 ≤ 2000; omega)
  have l0 : 0 < h.1.length := (List.getElem?_eq_some_iff.mp c1).1
  refine mR_ix [(0, .ref 0)] rfl rfl rfl ?_
  refine mE_aldn 1 rfl rfl rfl rfl ?_
  refine mE_dup 2 rfl rfl rfl ?_
  refine mE_gf 5 rfl rfl c1 d1 rfl ?_
  refine mE_ico 6 1 rfl rfl rfl ?_
  refine mE_iadd 7 (a + 1) rfl rfl rfl ?_
  refine mE_pf 10 rfl c1 (by show (true && Nat.blt 12 fs.length) = true; rw [Nat.blt_eq.mpr hlf]; rfl) rfl ?_
  have hH0 : okH rI0 (gup g 2 (g 2 + 1)) ρ (h.1.set 0 (.inr (10, fs.set 12 (.int (a + 1))))) := okH_pset1 sp2 (by decide) hH hm rO_eq (j := 12) rfl rfl c1 (by omega)
  have p4 : (fs.set 12 (.int (a + 1)))[4]? = some (.ref 5) := (List.getElem?_set_ne (by decide)).trans f4
  have p12 : (fs.set 12 (.int (a + 1)))[12]? = some (.int (a + 1)) := List.getElem?_set_self hlf
  have z0 : (h.1.set 0 (.inr (10, fs.set 12 (.int (a + 1)))))[0]? = some (.inr (10, fs.set 12 (.int (a + 1)))) := List.getElem?_set_self l0
  have y0 : (h.1.set 0 (.inr (10, fs.set 12 (.int (a + 1)))))[5]? = some (.inl (5, .inr [some 26, some 33, some 40])) := (List.getElem?_set_ne (by decide)).trans h5
  have x26 : (h.1.set 0 (.inr (10, fs.set 12 (.int (a + 1)))))[26]? = some (lwC (A 0) (B 0) (WT 0) (FR 0)) := (List.getElem?_set_ne (by decide)).trans (hl 0 (by decide))
  have x33 : (h.1.set 0 (.inr (10, fs.set 12 (.int (a + 1)))))[33]? = some (lwC (A 1) (B 1) (WT 1) (FR 1)) := (List.getElem?_set_ne (by decide)).trans (hl 1 (by decide))
  have x40 : (h.1.set 0 (.inr (10, fs.set 12 (.int (a + 1)))))[40]? = some (lwC (A 2) (B 2) (WT 2) (FR 2)) := (List.getElem?_set_ne (by decide)).trans (hl 2 (by decide))
  generalize h.1.set 0 (.inr (10, fs.set 12 (.int (a + 1)))) = H0 at hH0 z0 y0 x26 x33 x40
  have ea : (a + 1).toInt = g 2 + 1 := by omega
  refine mE_ico 11 0 rfl rfl rfl ?_
  refine mE_istn 12 [(1, .int 0), (0, .ref 0)] rfl rfl rfl rfl ?_
  refine mE_ildn 13 rfl rfl rfl rfl ?_
  refine mE_ico 14 3 rfl rfl rfl ?_
  refine mE_ic_ge_f 17 rfl (by decide) rfl ?_
  refine mE_aldn 18 rfl rfl rfl rfl ?_
  refine mE_gf (h := (H0, _)) 21 rfl rfl z0 p4 rfl ?_
  refine mE_ildn 22 rfl rfl rfl rfl ?_
  refine mE_qla (h := (H0, _)) 23 rfl y0 rfl (by decide) rfl rfl ?_
  refine mE_aldn 24 rfl rfl rfl rfl ?_
  refine mE_gf (h := (H0, _)) 27 rfl rfl z0 p12 rfl ?_
  refine mE_cv (h := (H0, _)) [.int (a + 1)] [] rfl rfl rfl rfl x26 rfl ?_
  obtain ⟨r, hA, k1, hHA, -, rfl⟩ := hall 62 _ rfl (gup g 2 (g 2 + 1)) ρ [.ref 26, .int (a + 1)] (H0, h.2) hg' hH0 ⟨⟨26, rfl, r26⟩, a32_ok _, trivial⟩ (fun q hq => by cases hq)
  have k1 : mcall d 6 [.ref 26, .int (a + 1)] (H0, h.2) = some (none, hA) := k1
  obtain ⟨r2, hB, k2, rfl, eB⟩ := r_reach (d := d) (h := (H0, h.2)) (w := a + 1) x26
  rw [mcall_le (Nat.le_succ d) k1] at k2
  cases k2
  subst eB
  rw [ea] at hHA k1
  refine ⟨_, _, k1, ?_⟩
  have l26 : 26 < H0.length := (List.getElem?_eq_some_iff.mp x26).1
  have w26 : (H0.set 26 (rc (g 2 + 1) (A 0) (B 0) (WT 0) (FR 0)))[26]? = some (rc (g 2 + 1) (A 0) (B 0) (WT 0) (FR 0)) := List.getElem?_set_self l26
  have z1 : (H0.set 26 (rc (g 2 + 1) (A 0) (B 0) (WT 0) (FR 0)))[0]? = some (.inr (10, fs.set 12 (.int (a + 1)))) := (List.getElem?_set_ne (by decide)).trans z0
  have y1 : (H0.set 26 (rc (g 2 + 1) (A 0) (B 0) (WT 0) (FR 0)))[5]? = some (.inl (5, .inr [some 26, some 33, some 40])) := (List.getElem?_set_ne (by decide)).trans y0
  have x33 : (H0.set 26 (rc (g 2 + 1) (A 0) (B 0) (WT 0) (FR 0)))[33]? = some (lwC (A 1) (B 1) (WT 1) (FR 1)) := (List.getElem?_set_ne (by decide)).trans x33
  have x40 : (H0.set 26 (rc (g 2 + 1) (A 0) (B 0) (WT 0) (FR 0)))[40]? = some (lwC (A 2) (B 2) (WT 2) (FR 2)) := (List.getElem?_set_ne (by decide)).trans x40
  have hHA : okH rI0 (gup g 2 (g 2 + 1)) ρ (H0.set 26 (rc (g 2 + 1) (A 0) (B 0) (WT 0) (FR 0))) := hHA
  show mE _ _ _ _ _ (_, _, _, (H0.set 26 (rc (g 2 + 1) (A 0) (B 0) (WT 0) (FR 0)), h.2)) _
  generalize H0.set 26 (rc (g 2 + 1) (A 0) (B 0) (WT 0) (FR 0)) = H1 at hHA z1 y1 x33 x40 w26 ⊢
  have hH1 : okH rI0 (gup g 2 (g 2 + 1)) ρ H1 := hHA
  refine mE_iinc 33 1 [(1, .int 1), (0, .ref 0)] rfl rfl rfl rfl rfl rfl ?_
  refine mE_goto 12 rfl rfl ?_
  refine mE_ildn 13 rfl rfl rfl rfl ?_
  refine mE_ico 14 3 rfl rfl rfl ?_
  refine mE_ic_ge_f 17 rfl (by decide) rfl ?_
  refine mE_aldn 18 rfl rfl rfl rfl ?_
  refine mE_gf (h := (H1, _)) 21 rfl rfl z1 p4 rfl ?_
  refine mE_ildn 22 rfl rfl rfl rfl ?_
  refine mE_qla (h := (H1, _)) 23 rfl y1 rfl (by decide) rfl rfl ?_
  refine mE_aldn 24 rfl rfl rfl rfl ?_
  refine mE_gf (h := (H1, _)) 27 rfl rfl z1 p12 rfl ?_
  refine mE_cv (h := (H1, _)) [.int (a + 1)] [] rfl rfl rfl rfl x33 rfl ?_
  obtain ⟨r, hA, k1, hHA, -, rfl⟩ := hall 62 _ rfl (gup g 2 (g 2 + 1)) ρ [.ref 33, .int (a + 1)] (H1, h.2) hg' hH1 ⟨⟨33, rfl, r33⟩, a32_ok _, trivial⟩ (fun q hq => by cases hq)
  have k1 : mcall d 6 [.ref 33, .int (a + 1)] (H1, h.2) = some (none, hA) := k1
  obtain ⟨r2, hB, k2, rfl, eB⟩ := r_reach (d := d) (h := (H1, h.2)) (w := a + 1) x33
  rw [mcall_le (Nat.le_succ d) k1] at k2
  cases k2
  subst eB
  rw [ea] at hHA k1
  refine ⟨_, _, k1, ?_⟩
  have l33 : 33 < H1.length := (List.getElem?_eq_some_iff.mp x33).1
  have w33 : (H1.set 33 (rc (g 2 + 1) (A 1) (B 1) (WT 1) (FR 1)))[33]? = some (rc (g 2 + 1) (A 1) (B 1) (WT 1) (FR 1)) := List.getElem?_set_self l33
  have z2 : (H1.set 33 (rc (g 2 + 1) (A 1) (B 1) (WT 1) (FR 1)))[0]? = some (.inr (10, fs.set 12 (.int (a + 1)))) := (List.getElem?_set_ne (by decide)).trans z1
  have y2 : (H1.set 33 (rc (g 2 + 1) (A 1) (B 1) (WT 1) (FR 1)))[5]? = some (.inl (5, .inr [some 26, some 33, some 40])) := (List.getElem?_set_ne (by decide)).trans y1
  have x40 : (H1.set 33 (rc (g 2 + 1) (A 1) (B 1) (WT 1) (FR 1)))[40]? = some (lwC (A 2) (B 2) (WT 2) (FR 2)) := (List.getElem?_set_ne (by decide)).trans x40
  have w26 : (H1.set 33 (rc (g 2 + 1) (A 1) (B 1) (WT 1) (FR 1)))[26]? = some (rc (g 2 + 1) (A 0) (B 0) (WT 0) (FR 0)) := (List.getElem?_set_ne (by decide)).trans w26
  have hHA : okH rI0 (gup g 2 (g 2 + 1)) ρ (H1.set 33 (rc (g 2 + 1) (A 1) (B 1) (WT 1) (FR 1))) := hHA
  show mE _ _ _ _ _ (_, _, _, (H1.set 33 (rc (g 2 + 1) (A 1) (B 1) (WT 1) (FR 1)), h.2)) _
  generalize H1.set 33 (rc (g 2 + 1) (A 1) (B 1) (WT 1) (FR 1)) = H2 at hHA z2 y2 x40 w26 w33 ⊢
  have hH2 : okH rI0 (gup g 2 (g 2 + 1)) ρ H2 := hHA
  refine mE_iinc 33 2 [(1, .int 2), (0, .ref 0)] rfl rfl rfl rfl rfl rfl ?_
  refine mE_goto 12 rfl rfl ?_
  refine mE_ildn 13 rfl rfl rfl rfl ?_
  refine mE_ico 14 3 rfl rfl rfl ?_
  refine mE_ic_ge_f 17 rfl (by decide) rfl ?_
  refine mE_aldn 18 rfl rfl rfl rfl ?_
  refine mE_gf (h := (H2, _)) 21 rfl rfl z2 p4 rfl ?_
  refine mE_ildn 22 rfl rfl rfl rfl ?_
  refine mE_qla (h := (H2, _)) 23 rfl y2 rfl (by decide) rfl rfl ?_
  refine mE_aldn 24 rfl rfl rfl rfl ?_
  refine mE_gf (h := (H2, _)) 27 rfl rfl z2 p12 rfl ?_
  refine mE_cv (h := (H2, _)) [.int (a + 1)] [] rfl rfl rfl rfl x40 rfl ?_
  obtain ⟨r, hA, k1, hHA, -, rfl⟩ := hall 62 _ rfl (gup g 2 (g 2 + 1)) ρ [.ref 40, .int (a + 1)] (H2, h.2) hg' hH2 ⟨⟨40, rfl, r40⟩, a32_ok _, trivial⟩ (fun q hq => by cases hq)
  have k1 : mcall d 6 [.ref 40, .int (a + 1)] (H2, h.2) = some (none, hA) := k1
  obtain ⟨r2, hB, k2, rfl, eB⟩ := r_reach (d := d) (h := (H2, h.2)) (w := a + 1) x40
  rw [mcall_le (Nat.le_succ d) k1] at k2
  cases k2
  subst eB
  rw [ea] at hHA k1
  refine ⟨_, _, k1, ?_⟩
  have l40 : 40 < H2.length := (List.getElem?_eq_some_iff.mp x40).1
  have w40 : (H2.set 40 (rc (g 2 + 1) (A 2) (B 2) (WT 2) (FR 2)))[40]? = some (rc (g 2 + 1) (A 2) (B 2) (WT 2) (FR 2)) := List.getElem?_set_self l40
  have z3 : (H2.set 40 (rc (g 2 + 1) (A 2) (B 2) (WT 2) (FR 2)))[0]? = some (.inr (10, fs.set 12 (.int (a + 1)))) := (List.getElem?_set_ne (by decide)).trans z2
  have y3 : (H2.set 40 (rc (g 2 + 1) (A 2) (B 2) (WT 2) (FR 2)))[5]? = some (.inl (5, .inr [some 26, some 33, some 40])) := (List.getElem?_set_ne (by decide)).trans y2
  have w26 : (H2.set 40 (rc (g 2 + 1) (A 2) (B 2) (WT 2) (FR 2)))[26]? = some (rc (g 2 + 1) (A 0) (B 0) (WT 0) (FR 0)) := (List.getElem?_set_ne (by decide)).trans w26
  have w33 : (H2.set 40 (rc (g 2 + 1) (A 2) (B 2) (WT 2) (FR 2)))[33]? = some (rc (g 2 + 1) (A 1) (B 1) (WT 1) (FR 1)) := (List.getElem?_set_ne (by decide)).trans w33
  have hHA : okH rI0 (gup g 2 (g 2 + 1)) ρ (H2.set 40 (rc (g 2 + 1) (A 2) (B 2) (WT 2) (FR 2))) := hHA
  show mE _ _ _ _ _ (_, _, _, (H2.set 40 (rc (g 2 + 1) (A 2) (B 2) (WT 2) (FR 2)), h.2)) _
  generalize H2.set 40 (rc (g 2 + 1) (A 2) (B 2) (WT 2) (FR 2)) = H3 at hHA z3 y3  w26 w33 w40 ⊢
  have hH3 : okH rI0 (gup g 2 (g 2 + 1)) ρ H3 := hHA
  refine mE_iinc 33 3 [(1, .int 3), (0, .ref 0)] rfl rfl rfl rfl rfl rfl ?_
  refine mE_goto 12 rfl rfl ?_
  refine mE_ildn 13 rfl rfl rfl rfl ?_
  refine mE_ico 14 3 rfl rfl rfl ?_
  refine mE_ic_ge_t 36 rfl (by decide) rfl ?_
  refine mE_aldn 37 rfl rfl rfl rfl ?_
  refine mE_gf (h := (H3, _)) 40 rfl rfl z3 p12 rfl ?_
  refine mE_bip 42 20 rfl rfl rfl ?_
  refine mE_irem 43 _ rfl (by decide) rfl rfl ?_
  have fin : ∀ h' : mS, (∀ k r : Nat, ρ[k]? = some r → r = 24 → h'.1[k]? = H3[k]?) → ∀ q : Nat, q < 3 → h'.1[26 + 7 * q]? = some (rc (g 2 + 1) (A q) (B q) (WT q) (FR q)) := by
    intro h' hf q hq
    match q, hq with
    | 0, _ => exact (hf 26 24 r26 rfl).trans w26
    | 1, _ => exact (hf 33 24 r33 rfl).trans w33
    | 2, _ => exact (hf 40 24 r40 rfl).trans w40
    | q + 3, hq => omega
  refine mE_if_ne rfl (fun _ => ?_) (fun _ => ?_)
  · exact mE_vret rfl ⟨rfl, rfl, fin (H3, h.2) (fun _ _ _ _ => rfl)⟩
  · refine mE_aldn 47 rfl rfl rfl rfl ?_
    refine mE_cv (h := (H3, _)) [] [] rfl rfl rfl rfl z3 rfl ?_
    obtain ⟨r, hA, k1, -, hF, rfl⟩ := hall ci_OpenFields_beginYear _ rfl (gup g 2 (g 2 + 1)) ρ [.ref 0] (H3, h.2) hg' hH3 ⟨⟨0, rfl, hm⟩, trivial⟩ (fun q hq => by cases hq)
    refine ⟨_, _, k1, ?_⟩
    exact mE_vret rfl ⟨rfl, rfl, fin hA (fun k r q1 q2 => hF.1 k r q1 (by rw [q2]; decide))⟩
/-- i weeks on -/
def rcI (i w : Int) (a b : Nat) (wt fr : Int32) : mC := if ¬ wt = 0 ∧ fr.toInt ≤ w + i ∧ 0 < i then lwC b a 0 fr else lwC a b wt fr
theorem rcI_0 {w : Int} {a b : Nat} {wt fr : Int32} : rcI 0 w a b wt fr = lwC a b wt fr := by unfold rcI; rw [if_neg (fun q => absurd q.2.2 (by decide))]
/-- a further week -/
theorem rcI_s {i w : Int} (hi : 0 ≤ i) {a b : Nat} {wt fr : Int32} : ∃ a' b' wt', rcI i w a b wt fr = lwC a' b' wt' fr ∧ rc (w + i + 1) a' b' wt' fr = rcI (i + 1) w a b wt fr := by
  by_cases h : ¬ wt = 0 ∧ fr.toInt ≤ w + i ∧ 0 < i
  · refine ⟨b, a, 0, by unfold rcI; rw [if_pos h], ?_⟩
    unfold rc rcI
    rw [if_neg (fun q => q.1 rfl), if_pos ⟨h.1, by omega, by omega⟩]
  · refine ⟨a, b, wt, by unfold rcI; rw [if_neg h], ?_⟩
    unfold rc rcI
    by_cases h2 : ¬ wt = 0 ∧ fr.toInt ≤ w + i + 1
    · rw [if_pos h2, if_pos ⟨h2.1, by omega, by omega⟩]
    · rw [if_neg h2, if_neg (fun q => h2 ⟨q.1, by omega⟩)]
set_option maxRecDepth 10000 in
set_option maxHeartbeats 2000000 in
theorem tL_week {d : Nat} (hall : CTall ci_early (d + 1)) {g : Nat → Int} {ρ : List Nat} {x : Int32} {h : mS} (hg : okG aBl g) (hH : okH rI0 g ρ h.1) (hρ : ρ.take 78 = ρ00) {A B : Nat → Nat} {WT FR : Nat → Int32} (hl : lwH h.1 A B WT FR) (h5 : h.1[5]? = some (.inl (5, .inr [some 26, some 33, some 40]))) : mR (d + 3) 64 [.ref 0, .int x] h (fun r h' => (((1 ≤ x.toInt ∧ x.toInt ≤ 40 ∧ g 2 + x.toInt ≤ 2000) ∧ ∀ q : Nat, q < 3 → h'.1[26 + 7 * q]? = some (rcI x.toInt (g 2) (A q) (B q) (WT q) (FR q))) ∨ (¬ (1 ≤ x.toInt ∧ x.toInt ≤ 40 ∧ g 2 + x.toInt ≤ 2000) ∧ h' = h))) := by
  have e0 : (0 : Int32).toInt = 0 := by decide
  have e1 : (1 : Int32).toInt = 1 := by decide
  have e40 : (40 : Int32).toInt = 40 := by decide
  have e2000 : (2000 : Int32).toInt = 2000 := by decide
  have hgp := hg 2 (0, 2000) rfl
  have hgp : 0 ≤ g 2 ∧ g 2 ≤ 2000 := hgp
  have hm : ρ[0]? = some 0 := at_rho hρ (by decide) rfl
  have r5 : ρ[5]? = some 5 := at_rho hρ (by decide) rfl
  have r24 : ∀ q : Nat, q < 3 → ρ[26 + 7 * q]? = some 24 := fun q hq => by
    match q, hq with
    | 0, _ => exact at_rho hρ (by decide) rfl
    | 1, _ => exact at_rho hρ (by decide) rfl
    | 2, _ => exact at_rho hρ (by decide) rfl
    | q + 3, hq => omega
  obtain ⟨fs, c1, c2, c3⟩ := fld hH hm rO_eq
  obtain ⟨v1, d1, a, rfl, d2⟩ := c3 12 (1, 2, 0) rfl
  have d2 : a.toInt = g 2 + 0 := d2
  have hall2 : CTall ci_early (d + 2) := hall.le (Nat.le_succ _)
  have no : ∀ b : Nat, ¬ (1 ≤ x.toInt ∧ x.toInt ≤ 40 ∧ g 2 + x.toInt ≤ 2000) → mE (mcall (d + 2)) none 3 (mgd 58 mtX10_week) (b + 2) (22, [(0, .ref 0), (1, .int x)], [], h) (fun r h' => mretok (some .int) r = true ∧ (((1 ≤ x.toInt ∧ x.toInt ≤ 40 ∧ g 2 + x.toInt ≤ 2000) ∧ ∀ q : Nat, q < 3 → h'.1[26 + 7 * q]? = some (rcI x.toInt (g 2) (A q) (B q) (WT q) (FR q))) ∨ (¬ (1 ≤ x.toInt ∧ x.toInt ≤ 40 ∧ g 2 + x.toInt ≤ 2000) ∧ h' = h))) := by
    intro b hn
    refine mE_ico 23 (-1) rfl rfl rfl ?_
    exact mE_iret rfl ⟨rfl, Or.inr ⟨hn, rfl⟩⟩
  -- the loop
  have key : (1 ≤ x.toInt ∧ x.toInt ≤ 40 ∧ g 2 + x.toInt ≤ 2000) → ∀ (k : Nat) (h2 : mS) (lv : mL) (i : Int32), 0 ≤ i.toInt → i.toInt + k = x.toInt → okH rI0 (gup g 2 (g 2 + i.toInt)) ρ h2.1 → h2.1[5]? = some (.inl (5, .inr [some 26, some 33, some 40])) → (∀ q : Nat, q < 3 → h2.1[26 + 7 * q]? = some (rcI i.toInt (g 2) (A q) (B q) (WT q) (FR q))) → mget lv 0 = some (.ref 0) → mget lv 1 = some (.int x) → mget lv 2 = some (.int i) → (∀ q ∈ lv, mone q.2 = true) → mE (mcall (d + 2)) none 3 (mgd 58 mtX10_week) (60 * k + 60) (26, lv, [], h2) (fun r h' => mretok (some .int) r = true ∧ (((1 ≤ x.toInt ∧ x.toInt ≤ 40 ∧ g 2 + x.toInt ≤ 2000) ∧ ∀ q : Nat, q < 3 → h'.1[26 + 7 * q]? = some (rcI x.toInt (g 2) (A q) (B q) (WT q) (FR q))) ∨ (¬ (1 ≤ x.toInt ∧ x.toInt ≤ 40 ∧ g 2 + x.toInt ≤ 2000) ∧ h' = h))) := by
    intro hx k
    induction k with
    | zero =>
      intro h2 lv i i0 ik hH2 h52 hL2 g0 g1 g2 g3
      refine mE_ildn 27 rfl g2 rfl rfl ?_
      refine mE_ildn 28 rfl g1 rfl rfl ?_
      refine mE_ic_ge_t 53 rfl (Int32.le_iff_toInt_le.mpr (by omega)) rfl ?_
      obtain ⟨fs2, c4, -, c5⟩ := fld hH2 hm rO_eq
      obtain ⟨v2, d3, a2, rfl, d4⟩ := c5 12 (1, 2, 0) rfl
      have d4 : a2.toInt = gup g 2 (g 2 + i.toInt) 2 + 0 := d4
      rw [gup_self] at d4
      refine mE_aldn (53 + 1) rfl g0 rfl rfl ?_
      refine mE_gf (53 + 4) rfl rfl c4 d3 rfl ?_
      exact mE_iret rfl ⟨rfl, Or.inl ⟨hx, fun q hq => by rw [show x.toInt = i.toInt by omega]; exact hL2 q hq⟩⟩
    | succ k ih =>
      intro h2 lv i i0 ik hH2 h52 hL2 g0 g1 g2 g3
      have hgi : okG aBl (gup g 2 (g 2 + i.toInt)) := okG_up hg rfl (by show 0 ≤ g 2 + i.toInt; omega) (by show g 2 + i.toInt ≤ 2000; omega)
      have i1 : (i + 1).toInt = i.toInt + 1 := by rw [add_id (by omega) (by omega), e1]
      refine mE_ildn 27 rfl g2 rfl rfl ?_
      refine mE_ildn 28 rfl g1 rfl rfl ?_
      refine mE_ic_ge_f 31 rfl (fun q => by have := Int32.le_iff_toInt_le.mp q; omega) rfl ?_
      refine mE_aldn 32 rfl g0 rfl rfl ?_
      refine p_call0 (hall2 ci_OpenFields_growStrips _ rfl : CT rI0 aBl (d + 2) (88, [(3, ((0 : Nat) : Int), 0)], [], none, [26])) hgi hH2 hm rO_eq (by omega) rfl rfl (fun h3 hH3 hF3 => ?_)
      refine mE_aldn 36 rfl g0 rfl rfl ?_
      refine p_call0 (hall2 ci_OpenFields_grazeHerd _ rfl : CT rI0 aBl (d + 2) (89, [(3, ((0 : Nat) : Int), 0)], [], none, [0, 14, 15, 25, 26])) hgi hH3 hm rO_eq (by omega) rfl rfl (fun h4 hH4 hF4 => ?_)
      refine mE_aldn 40 rfl g0 rfl rfl ?_
      refine p_call0 (hall2 ci_OpenFields_eatFromBarns _ rfl : CT rI0 aBl (d + 2) (91, [(3, ((0 : Nat) : Int), 0)], [], none, [25])) hgi hH4 hm rO_eq (by omega) rfl rfl (fun h5' hH5 hF5 => ?_)
      refine mE_aldn 44 rfl g0 rfl rfl ?_
      obtain ⟨fs5, c6, -, -⟩ := fld hH5 hm rO_eq
      refine mE_cv [] [] rfl rfl rfl rfl c6 rfl ?_
      have fr5 : ∀ (k r : Nat), ρ[k]? = some r → (r = 5 ∨ r = 24) → h5'.1[k]? = h2.1[k]? := fun k r q1 q2 => by
        rw [hF5.1 k r q1 (by rcases q2 with q2 | q2 <;> rw [q2] <;> decide), hF4.1 k r q1 (by rcases q2 with q2 | q2 <;> rw [q2] <;> decide), hF3.1 k r q1 (by rcases q2 with q2 | q2 <;> rw [q2] <;> decide)]
      have hA : ∃ (A2 B2 : Nat → Nat) (W2 : Nat → Int32), lwH h5'.1 A2 B2 W2 FR ∧ ∀ q : Nat, q < 3 → rc (g 2 + i.toInt + 1) (A2 q) (B2 q) (W2 q) (FR q) = rcI (i + 1).toInt (g 2) (A q) (B q) (WT q) (FR q) := by
        have hs : ∀ q : Nat, ∃ a' b' wt', rcI i.toInt (g 2) (A q) (B q) (WT q) (FR q) = lwC a' b' wt' (FR q) ∧ rc (g 2 + i.toInt + 1) a' b' wt' (FR q) = rcI (i.toInt + 1) (g 2) (A q) (B q) (WT q) (FR q) := fun q => rcI_s i0
        refine ⟨fun q => Classical.choose (hs q), fun q => Classical.choose (Classical.choose_spec (hs q)), fun q => Classical.choose (Classical.choose_spec (Classical.choose_spec (hs q))), fun q hq => ?_, fun q hq => ?_⟩
        · have := Classical.choose_spec (Classical.choose_spec (Classical.choose_spec (hs q)))
          rw [fr5 _ _ (r24 q hq) (Or.inr rfl), hL2 q hq]
          exact congrArg some this.1
        · have := Classical.choose_spec (Classical.choose_spec (Classical.choose_spec (hs q)))
          rw [i1]
          exact this.2
      obtain ⟨A2, B2, W2, hA1, hA2⟩ := hA
      obtain ⟨r, h6, k1, rfl, k2, k3⟩ := r_beginWeek hall hgi hH5 hm (by rw [gup_self]; omega)
      obtain ⟨r2, hB, j1, -, j2⟩ := r_bw hall hgi hH5 hρ (by rw [gup_self]; omega) hA1 ((fr5 5 5 r5 (Or.inl rfl)).trans h52)
      rw [k1] at j1
      cases j1
      rw [gup_self] at j2
      rw [gup_self, gup_gup, Int.add_assoc, ← i1] at k2
      refine ⟨_, _, k1, ?_⟩
      refine mE_iinc 50 (i + 1) _ rfl g2 rfl rfl rfl rfl ?_
      refine mE_goto 26 rfl rfl ?_
      exact mE_le (ih h6 _ (i + 1) (by omega) (by omega) k2 ((k3.1 5 5 r5 (by decide)).trans ((fr5 5 5 r5 (Or.inl rfl)).trans h52)) (fun q hq => by rw [j2 q hq, hA2 q hq]) (by rw [mget_put lv 2 0 _ (by decide) g3]; exact g0) (by rw [mget_put lv 2 1 _ (by decide) g3]; exact g1) (mget_put_self _ _ _) (mput_mone g3 rfl)) (by omega)
  refine mR_ix [(0, .ref 0), (1, .int x)] rfl rfl rfl ?_
  refine mE_ildn 1 rfl rfl rfl rfl ?_
  refine mE_ico 2 1 rfl rfl rfl ?_
  refine mE_bip 4 40 rfl rfl rfl ?_
  refine mE_cs [.int x, .int 1, .int 40] [] rfl rfl rfl rfl rfl ?_
  obtain ⟨r, h', k1, rfl, rfl⟩ := r_within (d + 1) x 1 40 h
  refine ⟨_, _, k1, ?_⟩
  have hiff : (1 ≤ x ∧ x ≤ 40) ↔ (1 ≤ x.toInt ∧ x.toInt ≤ 40) := by rw [Int32.le_iff_toInt_le, Int32.le_iff_toInt_le, e1, e40]
  refine mE_if_eq rfl (fun hx => ?_) (fun hx => ?_)
  · have hx := bit0_iff.mp hx
    exact mE_le (no 0 (fun q => hx (hiff.mpr ⟨q.1, q.2.1⟩))) (Nat.le_of_ble_eq_true rfl)
  · have hx := hiff.mp (Classical.not_not.mp (fun q => hx (bit0_iff.mpr q)))
    have s1 : (a + x).toInt = a.toInt + x.toInt := add_id (by omega) (by omega)
    refine mE_aldn 11 rfl rfl rfl rfl ?_
    refine mE_gf 14 rfl rfl c1 d1 rfl ?_
    refine mE_ildn 15 rfl rfl rfl rfl ?_
    refine mE_iadd 16 (a + x) rfl rfl rfl ?_
    refine mE_sip 19 2000 rfl rfl rfl ?_
    refine mE_ic_le rfl (fun hy => ?_) (fun hy => ?_)
    · have hy := Int32.le_iff_toInt_le.mp hy
      refine mE_ico 25 0 rfl rfl rfl ?_
      refine mE_istn 26 [(2, .int 0), (0, .ref 0), (1, .int x)] rfl rfl rfl rfl ?_
      refine mE_le (key ⟨hx.1, hx.2, by omega⟩ x.toInt.toNat _ _ 0 (by omega) (by rw [e0]; omega) (by rw [e0, Int.add_zero, gup_same]; exact hH) h5 (fun q hq => by rw [e0, rcI_0]; exact hl q hq) rfl rfl rfl (lvall _ rfl)) (by show _ ≤ 999999999987; omega)
    · refine mE_le (no 0 (fun q => hy (Int32.le_iff_toInt_le.mpr (by omega)))) (Nat.le_of_ble_eq_true rfl)
