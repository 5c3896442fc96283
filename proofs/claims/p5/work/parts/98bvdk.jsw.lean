/-! swap, better, fewest -/
theorem M_fld {g : Nat → Int} {ρ : List Nat} {h : List mC} (hH : okH rI0 g ρ h) (hρ : ρ.take 78 = ρ00) : ∃ (fM : List Value) (S : Int32), h[47]? = some (.inr (11, fM)) ∧ (fM[12]? = some (.ref 58) ∧ fM[40]? = some (.ref 76) ∧ fM[41]? = some (.ref 77)) ∧ fM[21]? = some (.int S) ∧ S.toInt = g 11 := by
  obtain ⟨fM, a1, -, a3⟩ := fld hH (at_rho hρ (k := 47) (r := 30) (by decide) rfl) rM_eq
  obtain ⟨v, b1, k1, rfl, b2⟩ := a3 12 (3, 41, 0) rfl
  obtain ⟨v, c1, k2, rfl, c2⟩ := a3 40 (3, 59, 0) rfl
  obtain ⟨v, d1, k3, rfl, d2⟩ := a3 41 (3, 60, 0) rfl
  obtain ⟨v, e1, S, rfl, e2⟩ := a3 21 (1, 11, 0) rfl
  have e2 : S.toInt = g 11 + 0 := e2
  have b3 : k1 = 58 := one_of hH (show ρ[k1]? = some 41 from b2) (at_rho hρ (k := 58) (by decide) rfl) (by decide)
  have c3 : k2 = 76 := one_of hH (show ρ[k2]? = some 59 from c2) (at_rho hρ (k := 76) (by decide) rfl) (by decide)
  have d3 : k3 = 77 := one_of hH (show ρ[k3]? = some 60 from d2) (at_rho hρ (k := 77) (by decide) rfl) (by decide)
  subst b3
  subst c3
  subst d3
  exact ⟨fM, S, a1, ⟨b1, c1, d1⟩, e1, by omega⟩
theorem jh_cn {h h2 : List mC} (hf : fk fFH h h2) (e1 : h2[1]? = h[1]?) (e51 : h2[51]? = h[51]?) {S0 : Int32} (s0 : ∃ fM, h[47]? = some (.inr (11, fM)) ∧ fM[21]? = some (.int S0)) (e58 : ∀ OW, h[58]? = some (cAr OW) → ∃ OW', h2[58]? = some (cAr OW') ∧ ∀ k, cntS OW' S0.toInt.toNat k = cntS OW S0.toInt.toNat k) (hJ : JH h) : JH h2 := by
  obtain ⟨H, S, qs, BL, OW, ⟨⟨f0, a1, a2⟩, fM, a3, a4⟩, ⟨b1, b2, b3⟩, c⟩ := hJ
  obtain ⟨fM', q1, q2⟩ := s0
  rw [a3] at q1
  cases q1
  rw [a4] at q2
  cases q2
  obtain ⟨f0', d1, d2⟩ := hf 0 10 f0 a1
  obtain ⟨fM', d3, d4⟩ := hf 47 11 fM a3
  obtain ⟨OW', o1, o2⟩ := e58 OW b3
  refine ⟨H, S0, qs, BL, OW', ⟨⟨f0', d1, (d2 10 rfl).trans a2⟩, fM', d3, (d4 21 rfl).trans a4⟩, ⟨e1.trans b1, e51.trans b2, o1⟩, fun k hk => ⟨fun q => ?_, fun q => ?_⟩⟩
  · obtain ⟨cc, hf0, b, p1, p2, p3, p4, p5⟩ := hs_fk hf ((c k hk).1 q)
    exact ⟨cc, hf0, b, p1, p2, p3, p4, by rw [o2]; exact p5⟩
  · have := (c k hk).2 q
    exact ⟨this.1, by rw [o2]; exact this.2⟩
theorem jh_swp {md : List Nat} {y1 y2 : Nat} {as : List Value} (hC : PC1 [25, 26] y1 as) (hm : [1, 34].all (fun r => !md.elem r) = true) (s1 : SX.elem y1 = true) (s2 : SX.elem y2 = true) (hw : ∀ (S : Int32) (h h' : mS) (r : Option Value), RMs h.1 S → mcall 720 y2 (.ref 47 :: as) h = some (r, h') → CN S.toInt.toNat h.1 h'.1) : ∀ (i : Nat) (g : Nat → Int) (ρ : List Nat) (h h1 h2 : mS) (v1 v2 : Int32), Inv i g ρ h → (∀ k r : Nat, ρ00[k]? = some r → r ∉ md → h2.1[k]? = h.1[k]?) → (md.elem 53 = true ∨ RR ρ h.1 h2.1) → mcall 720 y1 (.ref 0 :: as) h = some (some (.int v1), h1) → mcall 720 y2 (.ref 47 :: as) h1 = some (some (.int v2), h2) → JC h.1 → JH h.1 → JH h2.1 := by
  intro i g ρ h h1 h2 v1 v2 hI hf hR c1 c2 _ hJ
  obtain ⟨i1, i2, i3, i4, i5, i7, i9, i10, i11, i12, i13⟩ := id hI
  have hfk := (mcall_fkX _ _ _ _ _ _ s1 c1).trans (mcall_fkX _ _ _ _ _ _ s2 c2)
  obtain ⟨v, h1', w6, w7, e1, -, -, -, -, -, e7⟩ := hC g ρ h i4 i1 i2
  rw [c1] at e1
  cases e1
  have k47 : h1.1[47]? = h.1[47]? := e7 47 30 i3 (by decide)
  have k58 : h1.1[58]? = h.1[58]? := e7 58 41 (at_rho i13 (by decide) rfl) (by decide)
  obtain ⟨fM, S, m1, ⟨m12, -, -⟩, m21, -⟩ := M_fld i1 i13
  have cn := hw S h1 h2 _ ⟨fM, k47.trans m1, m21, m12⟩ c2
  exact jh_cn hfk (hf 1 1 rfl (nmem hm (by decide))) (hf 51 34 rfl (nmem hm (by decide))) ⟨fM, m1, m21⟩ (fun OW q => cn.2 OW (k58.trans q)) hJ
theorem jp_swap (x y : Int32) : bothJ JP 77 155 [.int x, .int y] (fun _ _ => True) := bothJ_add2 (jc_swap x y) (i_swap x y) (jh_swp (PC1_of (hallA (Nat.le_refl _) ci_C_swap _ rfl) rfl rfl rfl rfl) rfl rfl rfl (fun S h h' r hR e => w_Mswap (d := 717) hR e))
theorem jp_better : bothJ JP 78 157 [] (fun _ _ => True) := bothJ_add2 jc_better i_better (jh_swp (PC1_of (hallA (Nat.le_refl _) ci_C_better _ rfl) rfl rfl rfl rfl) rfl rfl rfl (fun S h h' r hR e => w_Mbetter (d := 716) hR e))
theorem jp_fewest (x : Int32) : bothJ JP 79 159 [.int x] (fun _ _ => True) := by
  refine bothJ_add2 (jc_fewest x) (i_fewest x) ?_
  intro i g ρ h h1 h2 v1 v2 hI hf hR c1 c2 _ hJ
  obtain ⟨i1, i2, i3, i4, i5, i7, i9, i10, i11, i12, i13⟩ := id hI
  have hfk := (mcall_fk fS_H _ _ _ _ _ _ (elem_mem (show SH.elem 79 = true from rfl)) c1).trans (mcall_fk fS_H _ _ _ _ _ _ (elem_mem (show SH.elem 159 = true from rfl)) c2)
  obtain ⟨r, h', e1, v, n', rfl, e2, e3, e4, e5⟩ := t_fewest (d := 716) (hallE (by omega)) (x := x) i4 i1 i2
  have e1 : mcall 720 79 [.ref 0, .int x] h = some (some (.int v), h') := e1
  rw [c1] at e1
  cases e1
  have k47 : h1.1[47]? = h.1[47]? := e3.1 47 30 i3 (by decide)
  have k58 : h1.1[58]? = h.1[58]? := e3.1 58 41 (at_rho i13 (by decide) rfl) (by decide)
  obtain ⟨fM, S, m1, ⟨m12, m40, m41⟩, m21, -⟩ := M_fld i1 i13
  have fn := w_Mfewest (d := 719) ⟨fM, k47.trans m1, m12, m40, m41⟩ c2
  exact jh_fk hfk (hf 1 1 rfl (by decide)) (hf 51 34 rfl (by decide)) ((fn 58 (by decide) (by decide) (by decide)).trans k58) hJ
