def sMS_0 : aAn := ([(0, (3, 30, 0)), (1, a32), (2, a32)], [], (519, []))
def sMS_243 : aAn := ([(0, (3, 30, 0)), (1, (2, 10, -1)), (2, (2, 11, -1)), (3, (0, 1, 1)), (4, a32), (1038, (0, 0, 600))], [], (400, []))
def sMS : List (Nat × aAn) := [(0, sMS_0),
  (16, [(0, (3, 30, 0)), (1, a32), (2, a32)], [], (2, [])),
  (52, [(0, (3, 30, 0)), (1, (2, 10, -1)), (2, (2, 11, -1))], [], (495, [])),
  (53, [(0, (3, 30, 0)), (1, (2, 10, -1)), (2, (2, 11, -1))], [((0, 0, 1), 0, a32)], (494, [])),
  (99, [(0, (3, 30, 0)), (1, (2, 10, -1)), (2, (2, 11, -1)), (3, (0, 0, 1)), (4, a32)], [(a32, 0, a32), ((2, 11, -1), 5, (0, 0, 0)), ((3, 46, 0), 2035, (0, 0, 0))], (466, [])),
  (122, [(0, (3, 30, 0)), (1, (2, 10, -1)), (2, (2, 11, -1)), (3, (0, 0, 1)), (4, a32)], [], (464, [])),
  (160, [(0, (3, 30, 0)), (1, (2, 10, -1)), (2, (2, 11, -1)), (3, (0, 1, 1)), (4, a32)], [(a32, 0, a32)], (449, [])),
  (243, sMS_243)]
set_option maxRecDepth 100000 in
theorem sMS_k : sMS.all (fun q => ([243] : List Nat).elem q.1 || ahead aBl rI0 (ctU ci_all) (alook [(2, 10), (10, 12), (42, 235), (58, 238)]) [30, 32, 42, 46, 51, 52, 55, 56, 57, 58] (some a32) 5 (mgd 256 mtX11_stray) (anaf sMS) 153 q.1) = true := by decide +kernel
theorem sMS_e0 : anaf sMS 0 = some sMS_0 := rfl
theorem sMS_e243 : anaf sMS 243 = some sMS_243 := rfl
def sMH_0 : aAn := ([(0, (3, 30, 0)), (1, a32)], [], (404, []))
def sMH_13 : aAn := ([(0, (3, 30, 0)), (1, (2, 10, -1))], [], (400, []))
def sMH : List (Nat × aAn) := [(0, sMH_0),
  (13, sMH_13),
  (40, [(0, (3, 30, 0)), (1, a32)], [((0, -9, -9), 0, a32)], (1, []))]
set_option maxRecDepth 100000 in
theorem sMH_k : sMH.all (fun q => ([13] : List Nat).elem q.1 || ahead aBl rI0 (ctU ci_early) (alook [(2, 10)]) [] (some a32) 2 (mgd 41 mtX11_hunger) (anaf sMH) 25 q.1) = true := by decide +kernel
theorem sMH_e0 : anaf sMH 0 = some sMH_0 := rfl
theorem sMH_e13 : anaf sMH 13 = some sMH_13 := rfl
/-! the reference's stray and hunger -/
def strM : List Nat := [30, 32, 42, 46, 51, 52, 55, 56, 57, 58]
set_option maxRecDepth 10000 in
theorem t_Mstray {d : Nat} (hall : CTall ci_all d) {g : Nat → Int} {ρ : List Nat} {m : Nat} {x y : Int32} {h : mS} (hg : okG aBl g) (hH : okH rI0 g ρ h.1) (hm : ρ[m]? = some 30) : mR (d + 1) 148 [.ref m, .int x, .int y] h (fun r h' => ∃ (v : Int32) (n' : Int), r = some (.int v) ∧ okH rI0 (gup g 8 n') ρ h'.1 ∧ okFr ρ strM h h' ∧ (n' = g 8 ∨ n' = g 8 + 1)) := by
  have hg8 := hg 8 (0, 600) rfl
  have hg8 : 0 ≤ g 8 ∧ g 8 ≤ 600 := hg8
  have e1 : (1 : Int32).toInt = 1 := by decide
  have hex : ∀ (pc : Nat) (A : aAn) (mm : Int), anaf sMS pc = some A → pc ∈ [243] → Gs rI0 g ρ strM h d 5 (mgd 256 mtX11_stray) (fun r h' => mretok (some .int) r = true ∧ (∃ (v : Int32) (n' : Int), r = some (.int v) ∧ okH rI0 (gup g 8 n') ρ h'.1 ∧ okFr ρ strM h h' ∧ (n' = g 8 ∨ n' = g 8 + 1))) 0 mm (pc, A) := by
    intro pc A mm hA hpc
    rcases List.mem_cons.mp hpc with rfl | hpc
    rotate_left
    · cases hpc
    rw [sMS_e243] at hA
    cases hA
    intro lv st h2 hS _
    have hst := hS.2.2.1.nil
    subst hst
    obtain ⟨v, q1, k, rfl, q3⟩ := hS.2.1.get (x := 0) (t := (3, 30, 0)) rfl
    obtain ⟨v, t1, x4, rfl, -⟩ := hS.2.1.get (x := 4) (t := a32) rfl
    have q1 : mget lv 0 = some (.ref k) := q1
    have q3 : ρ[k]? = some 30 := q3
    obtain ⟨fs, c1, c2, c3⟩ := fld hS.1 q3 rM_eq
    obtain ⟨v1, d1, w, rfl, d2⟩ := c3 38 (1, 8, 0) rfl
    have d2 : w.toInt = g 8 + 0 := d2
    have d5 : (w + 1).toInt = w.toInt + 1 := by rw [add_id (by omega) (by omega), e1]
    have hl : 38 < fs.length := (List.getElem?_eq_some_iff.mp d1).1
    refine ⟨400, Int.le_refl _, ?_⟩
    refine mE_aldn 244 rfl q1 rfl rfl ?_
    refine mE_dup 245 rfl rfl rfl ?_
    refine mE_gf 248 rfl rfl c1 d1 rfl ?_
    refine mE_ico 249 1 rfl rfl rfl ?_
    refine mE_iadd 250 (w + 1) rfl rfl rfl ?_
    refine mE_pf 253 rfl c1 (by show (true && Nat.blt 38 fs.length) = true; rw [Nat.blt_eq.mpr hl]; rfl) rfl ?_
    refine mE_ild 255 rfl t1 rfl rfl ?_
    exact mE_iret rfl ⟨rfl, x4, g 8 + 1, rfl, okH_pset1 sp8 (by decide) hS.1 q3 rM_eq (j := 38) rfl rfl c1 (by omega), hS.2.2.2.2.set q3 (by decide), Or.inr rfl⟩
  have G := seg_ok (rt := some a32) (Int.le_refl 0) hg hall (fun r h' q1 q2 q3 => by
    obtain ⟨v, rfl, z, rfl, -⟩ := q3
    exact ⟨rfl, z, g 8, rfl, by rw [gup_same]; exact q1, q2, Or.inl rfl⟩) sMS_k hex
  refine mR_ix [(0, .ref m), (1, .int x), (2, .int y)] rfl rfl rfl ?_
  obtain ⟨b, hb, kE⟩ := G _ 0 _ sMS_e0 [(0, .ref m), (1, .int x), (2, .int y)] [] h ⟨hH, okL.cons (v := .ref m) rfl ⟨m, rfl, hm⟩ (okL.cons (v := .int x) rfl (a32_ok x) (okL.cons (v := .int y) rfl (a32_ok y) okL.nil)), trivial, lvall _ rfl, okFr.rfl⟩ (Int.le_refl _)
  have hb : (b : Int) ≤ 519 + 0 + 0 := hb
  exact mE_le kE (by show b ≤ 1000000000000; omega)
set_option maxRecDepth 10000 in
theorem t_Mhunger {d : Nat} (hall : CTall ci_early d) {g : Nat → Int} {ρ : List Nat} {m : Nat} {x : Int32} {h : mS} (hg : okG aBl g) (hH : okH rI0 g ρ h.1) (hm : ρ[m]? = some 30) : mR (d + 1) 147 [.ref m, .int x] h (fun r h' => ∃ v : Int32, r = some (.int v) ∧ h' = h) := by
  have hgt := hg 10 (0, 12) rfl
  have hgt : 0 ≤ g 10 ∧ g 10 ≤ 12 := hgt
  have e0 : (0 : Int32).toInt = 0 := by decide
  have hex : ∀ (pc : Nat) (A : aAn) (mm : Int), anaf sMH pc = some A → pc ∈ [13] → Gs rI0 g ρ [] h d 2 (mgd 41 mtX11_hunger) (fun r h' => mretok (some .int) r = true ∧ ∃ v : Int32, r = some (.int v) ∧ h' = h) 0 mm (pc, A) := by
    intro pc A mm hA hpc
    rcases List.mem_cons.mp hpc with rfl | hpc
    rotate_left
    · cases hpc
    rw [sMH_e13] at hA
    cases hA
    intro lv st h2 hS _
    have hst := hS.2.2.1.nil
    subst hst
    have hs := same_of hH hS.1 hS.2.2.2.2
    obtain ⟨v, q1, k, rfl, q3⟩ := hS.2.1.get (x := 0) (t := (3, 30, 0)) rfl
    obtain ⟨v, r1, i, rfl, i1, i2⟩ := hS.2.1.get (x := 1) (t := (2, 10, -1)) rfl
    have i2 : i.toInt ≤ g 10 + -1 := i2
    have q1 : mget lv 0 = some (.ref k) := q1
    have q3 : ρ[k]? = some 30 := q3
    have r1 : mget lv 1 = some (.int i) := r1
    obtain ⟨fs, c1, -, c3⟩ := fld hS.1 q3 rM_eq
    obtain ⟨v3, d1, an, rfl, d2⟩ := c3 3 (3, 33, 0) rfl
    obtain ⟨v2, d3, ab, rfl, d4⟩ := c3 2 (3, 32, 0) rfl
    obtain ⟨cn, n1, xs, rfl, n2, -⟩ := hS.1.at (show ρ[an]? = some 33 from d2) (R := .inr (.inl (0, 12, -2147483648, 2147483647))) rfl
    obtain ⟨cb, b1, ys, rfl, b2, -⟩ := hS.1.at (show ρ[ab]? = some 32 from d4) (R := .inr (.inl (0, 12, -2147483648, 2147483647))) rfl
    have ic : (i.toNatClampNeg : Int) = i.toInt := by
      show ((i.toInt.toNat : Nat) : Int) = i.toInt
      omega
    have hnn : ¬ i < 0 := fun q => by have := Int32.lt_iff_toInt_lt.mp q; omega
    have l1 : i.toNatClampNeg < xs.length := by rw [n2]; omega
    have l2 : i.toNatClampNeg < ys.length := by rw [b2]; omega
    refine ⟨400, Int.le_refl _, ?_⟩
    refine mE_aldn 14 rfl q1 rfl rfl ?_
    refine mE_gf 17 rfl rfl c1 d1 rfl ?_
    refine mE_ildn 18 rfl r1 rfl rfl ?_
    refine mE_ila 19 rfl n1 hnn (List.getElem?_eq_getElem l1) rfl ?_
    refine mE_if_ne rfl (fun hn => ?_) (fun hn => ?_)
    · refine mE_aldn 28 rfl q1 rfl rfl ?_
      refine mE_gf 31 rfl rfl c1 d3 rfl ?_
      refine mE_ildn 32 rfl r1 rfl rfl ?_
      refine mE_ila 33 rfl b1 hnn (List.getElem?_eq_getElem l2) rfl ?_
      refine mE_aldn 34 rfl q1 rfl rfl ?_
      refine mE_gf 37 rfl rfl c1 d1 rfl ?_
      refine mE_ildn 38 rfl r1 rfl rfl ?_
      refine mE_ila 39 rfl n1 hnn (List.getElem?_eq_getElem l1) rfl ?_
      refine mE_idiv 40 _ rfl hn rfl rfl ?_
      exact mE_iret rfl ⟨rfl, _, rfl, hs⟩
    · refine mE_ldci 24 100000 rfl rfl rfl rfl ?_
      refine mE_goto 40 rfl rfl ?_
      exact mE_iret rfl ⟨rfl, _, rfl, hs⟩
  have G := seg_ok (rt := some a32) (Int.le_refl 0) hg hall (fun r h' q1 q2 q3 => by
    obtain ⟨v, rfl, z, rfl, -⟩ := q3
    exact ⟨rfl, z, rfl, same_of hH q1 q2⟩) sMH_k hex
  refine mR_ix [(0, .ref m), (1, .int x)] rfl rfl rfl ?_
  obtain ⟨b, hb, kE⟩ := G _ 0 _ sMH_e0 [(0, .ref m), (1, .int x)] [] h ⟨hH, okL.cons (v := .ref m) rfl ⟨m, rfl, hm⟩ (okL.cons (v := .int x) rfl (a32_ok x) okL.nil), trivial, lvall _ rfl, okFr.rfl⟩ (Int.le_refl _)
  have hb : (b : Int) ≤ 404 + 0 + 0 := hb
  exact mE_le kE (by show b ≤ 1000000000000; omega)
