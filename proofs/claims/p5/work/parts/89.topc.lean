def sS_0 : aAn := ([(0, (3, 0, 0)), (1, a32), (2, a32)], [], (457, []))
def sS_120 : aAn := ([(0, (3, 0, 0)), (1, (2, 0, -1)), (2, (2, 1, -1)), (3, (3, 25, 0)), (4, (3, 26, 0)), (5, (0, 0, 2147483647)), (6, a32)], [], (400, []))
def sS : List (Nat × aAn) := [(0, sS_0),
  (16, [(0, (3, 0, 0)), (1, a32), (2, a32)], [], (2, [])),
  (66, [(0, (3, 0, 0)), (1, (2, 0, -1)), (2, (2, 1, -1)), (3, (3, 25, 0)), (4, (3, 26, 0))], [], (2, [])),
  (120, sS_120)]
set_option maxRecDepth 100000 in
theorem sS_k : sS.all (fun q => ([120] : List Nat).elem q.1 || ahead aBl rI0 (ctU ci_early) (alook [(2, 0), (10, 2), (45, 129), (60, 31), (75, 66)]) [25, 26, 14, 15] (some a32) 7 (mgd 138 mtX10_stray) (anaf sS) 75 q.1) = true := by decide +kernel
theorem sS_e0 : anaf sS 0 = some sS_0 := rfl
theorem sS_e120 : anaf sS 120 = some sS_120 := rfl
def sW_0 : aAn := ([(0, (3, 16, 0)), (1, a32), (2, a32), (3, a32), (4, a32)], [], (435, []))
def sW_57 : aAn := ([(0, (3, 16, 0)), (1, a32), (2, a32), (3, a32), (4, a32), (1001, (0, 0, 600))], [], (400, []))
def sW : List (Nat × aAn) := [(0, sW_0),
  (57, sW_57)]
set_option maxRecDepth 100000 in
theorem sW_k : sW.all (fun q => ([57] : List Nat).elem q.1 || ahead aBl rI0 (ctU ci_early) (alook []) [17] (some (7, 0, 0)) 6 (mgd 68 mtX0_write) (anaf sW) 44 q.1) = true := by decide +kernel
theorem sW_e0 : anaf sW 0 = some sW_0 := rfl
theorem sW_e57 : anaf sW 57 = some sW_57 := rfl
def sH_0 : aAn := ([(0, (3, 0, 0)), (1, a32)], [], (409, []))
def sH_18 : aAn := ([(0, (3, 0, 0)), (1, (2, 0, -1)), (2, (3, 25, 0))], [], (400, []))
def sH : List (Nat × aAn) := [(0, sH_0),
  (18, sH_18)]
set_option maxRecDepth 100000 in
theorem sH_k : sH.all (fun q => ([18] : List Nat).elem q.1 || ahead aBl rI0 (ctU ci_early) (alook [(2, 0)]) [] (some a32) 3 (mgd 40 mtX10_hunger) (anaf sH) 24 q.1) = true := by decide +kernel
theorem sH_e0 : anaf sH 0 = some sH_0 := rfl
theorem sH_e18 : anaf sH 18 = some sH_18 := rfl
def sB_10 : aAn := ([(0, (3, 0, 0))], [], (49, []))
def sB : List (Nat × aAn) := [(10, sB_10),
  (12, [(0, (3, 0, 0)), (1, (0, 0, 3))], [], (47, [(1, -12)])),
  (50, [(0, (3, 0, 0)), (1, (0, 3, 3))], [], (1, []))]
set_option maxRecDepth 100000 in
theorem sB_k : sB.all (fun q => ([] : List Nat).elem q.1 || ahead aBl rI0 (ctU ci_early) (alook [(27, 62), (47, 123)]) [0, 26, 24] none 2 (mgd 51 mtX10_beginWeek) (anaf sB) 30 q.1) = true := by decide +kernel
theorem sB_e10 : anaf sB 10 = some sB_10 := rfl
/-! the class's calls that types alone do not close -/
theorem elimT {g : Nat → Int} {ρ : List Nat} {r : Option Value} {Q : Prop} (h : okR0 g ρ (some (7, 0, 0)) r) : Q := by
  obtain ⟨v, -, hv⟩ := h
  exact hv.elim
set_option maxRecDepth 10000 in
theorem r_fewestPieces {d : Nat} (hall : CTall ci_early d) {g : Nat → Int} {ρ : List Nat} {m f : Nat} {x : Int32} {h : mS} (hg : okG aBl g) (hH : okH rI0 g ρ h.1) (hm : ρ[m]? = some 18) (hf : ρ[f]? = some 23) : mR (d + 3) 8 [.ref m, .ref f, .int x] h (fun r h' => ∃ (v : Int32) (n' : Int), r = some (.int v) ∧ okH rI0 (gup g 6 n') ρ h'.1 ∧ okFr ρ [18, 19, 20, 21, 22] h h' ∧ 0 ≤ n' ∧ n' ≤ 8) := by
  obtain ⟨fs, c1, c2, c3⟩ := fld hH hm rD_eq
  have hl : fs.length = 8 := c2
  refine mR_ix [(0, .ref m), (1, .ref f), (2, .int x)] rfl rfl rfl ?_
  refine mE_aldn 1 rfl rfl rfl rfl ?_
  refine mE_ildn 2 rfl rfl rfl rfl ?_
  refine mE_pf 5 rfl c1 (by show (true && Nat.blt 6 fs.length) = true; rw [hl]; rfl) rfl ?_
  have hH1 := hH.put hm rD_eq (j := 6) (t := a32) rfl c1 (a32_ok x)
  have hF1 : okFr ρ [18, 19, 20, 21, 22] h (h.1.set m (.inr (2, fs.set 6 (.int x))), h.2) := okFr.set okFr.rfl hm (by decide)
  refine mE_aldn 6 rfl rfl rfl rfl ?_
  refine mE_aldn 7 rfl rfl rfl rfl ?_
  obtain ⟨fs1, d1, -, -⟩ := fld hH1 hm rD_eq
  refine mE_cv [.ref f] [] rfl rfl rfl rfl d1 rfl ?_
  obtain ⟨r, h2, e1, rfl, n', e2, e3, e4, e5⟩ := r_gather hall (h := (h.1.set m (.inr (2, fs.set 6 (.int x))), h.2)) hg hH1 hm hf
  refine ⟨_, _, e1, ?_⟩
  have hg2 : okG aBl (gup g 6 n') := okG_up hg rfl e4 e5
  obtain ⟨fs2, d2, -, -⟩ := fld e2 hm rD_eq
  refine mE_aldn 11 rfl rfl rfl rfl ?_
  refine mE_ico 12 0 rfl rfl rfl ?_
  refine mE_ico 13 (-1) rfl rfl rfl ?_
  refine mE_ico 14 0 rfl rfl rfl ?_
  refine mE_cv [.int 0, .int (-1), .int 0] [] rfl rfl rfl rfl d2 rfl ?_
  obtain ⟨r, h3, k1, k2, k3, k4⟩ := (hall ci_dealFrom0 _ rfl).le (Nat.le_add_right d 2) (gup g 6 n') ρ [.ref m, .int 0, .int (-1), .int 0] h2 hg2 e2 ⟨⟨m, rfl, hm⟩, ⟨0, rfl, by decide, by decide⟩, a32_ok _, a32_ok _, trivial⟩ (fun q hq => by cases hq)
  have k4 : r = none := k4
  subst k4
  refine ⟨_, _, k1, ?_⟩
  obtain ⟨fs3, d3, -, d4⟩ := fld k2 hm rD_eq
  obtain ⟨v7, d5, y, rfl, -⟩ := d4 7 a32 rfl
  refine mE_aldn 18 rfl rfl rfl rfl ?_
  refine mE_gf 21 rfl rfl d3 d5 rfl ?_
  exact mE_iret rfl ⟨rfl, y, n', rfl, k2, (hF1.trans e3).trans (k3.mono rfl), e4, e5⟩
def rO : List aV := rOf 0
theorem rO_eq : rI0 0 = some (.inl (10, rO)) := rfl
set_option maxRecDepth 10000 in
theorem t_fewest {d : Nat} (hall : CTall ci_early d) {g : Nat → Int} {ρ : List Nat} {m : Nat} {x : Int32} {h : mS} (hg : okG aBl g) (hH : okH rI0 g ρ h.1) (hm : ρ[m]? = some 0) : mR (d + 4) 79 [.ref m, .int x] h (fun r h' => ∃ (v : Int32) (n' : Int), r = some (.int v) ∧ okH rI0 (gup g 6 n') ρ h'.1 ∧ okFr ρ [18, 19, 20, 21, 22] h h' ∧ 0 ≤ n' ∧ n' ≤ 8) := by
  have hg6 := hg 6 (0, 8) rfl
  have hg6 : 0 ≤ g 6 ∧ g 6 ≤ 8 := hg6
  have e0 : (0 : Int32).toInt = 0 := by decide
  have e2 : (2 : Int32).toInt = 2 := by decide
  have bit : ∀ (p : Prop) [Decidable p], ((if p then (1 : Int32) else 0) = 0) ↔ ¬ p := by
    intro p _
    split <;> simp_all
  obtain ⟨fs, c1, c2, c3⟩ := fld hH hm rO_eq
  have stay : ∀ v : Int32, ∃ (v' : Int32) (n' : Int), some (Value.int v) = some (.int v') ∧ okH rI0 (gup g 6 n') ρ h.1 ∧ okFr ρ [18, 19, 20, 21, 22] h h ∧ 0 ≤ n' ∧ n' ≤ 8 := fun v => ⟨v, g 6, rfl, by rw [gup_same]; exact hH, okFr.rfl, hg6.1, hg6.2⟩
  refine mR_ix [(0, .ref m), (1, .int x)] rfl rfl rfl ?_
  refine mE_ildn 1 rfl rfl rfl rfl ?_
  refine mE_ico 2 0 rfl rfl rfl ?_
  refine mE_ico 3 2 rfl rfl rfl ?_
  refine mE_cs [.int x, .int 0, .int 2] [] rfl rfl rfl rfl rfl ?_
  obtain ⟨r, h', k1, rfl, rfl⟩ := r_within (d + 2) x 0 2 h
  refine ⟨_, _, k1, ?_⟩
  refine mE_if_ne rfl (fun hx => ?_) (fun hx => ?_)
  rotate_left
  · refine mE_ico 10 (-1) rfl rfl rfl ?_
    exact mE_iret rfl ⟨rfl, stay _⟩
  · have hx : 0 ≤ x ∧ x ≤ 2 := by
      rw [bit] at hx
      exact Classical.not_not.mp hx
    have x1 := Int32.le_iff_toInt_le.mp hx.1
    have x2 := Int32.le_iff_toInt_le.mp hx.2
    have xc : (x.toNatClampNeg : Int) = x.toInt := by
      show ((x.toInt.toNat : Nat) : Int) = x.toInt
      omega
    obtain ⟨v2, d1, fa, rfl, d2⟩ := c3 2 (3, 3, 0) rfl
    have d2 : ρ[fa]? = some 3 := d2
    obtain ⟨cc, d3, qs, rfl, d4, d5⟩ := hH.at d2 (R := .inr (.inr (4, 3, 23, 1))) rfl
    have hlt : x.toNatClampNeg < qs.length := by rw [d4]; omega
    have hq : qs[x.toNatClampNeg]? = some (qs[x.toNatClampNeg]'hlt) := List.getElem?_eq_getElem hlt
    have hnn : ¬ x < 0 := fun q => by have := Int32.lt_iff_toInt_lt.mp q; omega
    rcases d5 _ _ hq with ⟨-, e⟩ | ⟨kf, e, hkf⟩
    · exact e.elim
    · rw [e] at hq
      obtain ⟨ff, f1, -, f3⟩ := fld hH hkf (show rI0 23 = some (.inl (3, rOf 23)) from rfl)
      obtain ⟨v1, f4, sz, rfl, -⟩ := f3 1 a32 rfl
      refine mE_aldn 12 rfl rfl rfl rfl ?_
      refine mE_gf 15 rfl rfl c1 d1 rfl ?_
      refine mE_ildn 16 rfl rfl rfl rfl ?_
      refine mE_qla 17 rfl d3 rfl hnn hq rfl ?_
      refine mE_gf 20 rfl rfl f1 f4 rfl ?_
      refine mE_bip 22 8 rfl rfl rfl ?_
      refine mE_ic_le rfl (fun _ => ?_) (fun _ => ?_)
      · obtain ⟨v9, o1, dl, rfl, o2⟩ := c3 9 (3, 18, 0) rfl
        obtain ⟨v14, p1, ap, rfl, -⟩ := c3 14 (1, 3, 0) rfl
        have o2 : ρ[dl]? = some 18 := o2
        obtain ⟨fd, o3, -, -⟩ := fld hH o2 rD_eq
        refine mE_aldn 29 rfl rfl rfl rfl ?_
        refine mE_gf 32 rfl rfl c1 o1 rfl ?_
        refine mE_aldn 33 rfl rfl rfl rfl ?_
        refine mE_gf 36 rfl rfl c1 d1 rfl ?_
        refine mE_ildn 37 rfl rfl rfl rfl ?_
        refine mE_qla 38 rfl d3 rfl hnn hq rfl ?_
        refine mE_aldn 39 rfl rfl rfl rfl ?_
        refine mE_gf 42 rfl rfl c1 p1 rfl ?_
        refine mE_cv [.ref kf, .int ap] [] rfl rfl rfl rfl o3 rfl ?_
        obtain ⟨r, h2, z1, v, n', rfl, z3⟩ := r_fewestPieces hall (x := ap) hg hH o2 hkf
        refine ⟨_, _, z1, ?_⟩
        exact mE_iret rfl ⟨rfl, v, n', rfl, z3⟩
      · refine mE_bip 27 (-2) rfl rfl rfl ?_
        exact mE_iret rfl ⟨rfl, stay _⟩
set_option maxRecDepth 10000 in
/-- a line of the BOOK -/
theorem r_write {d : Nat} (hall : CTall ci_early d) {g : Nat → Int} {ρ : List Nat} {m : Nat} {a b c e : Int32} {h : mS} (hg : okG aBl g) (hH : okH rI0 g ρ h.1) (hm : ρ[m]? = some 16) : mR (d + 1) 2 [.ref m, .int a, .int b, .int c, .int e] h (fun r h' => r = none ∧ okH rI0 (gup g 7 (g 7 + 1)) ρ h'.1 ∧ okFr ρ [16, 17] h h') := by
  have hg7 := hg 7 (0, 600) rfl
  have hg7 : 0 ≤ g 7 ∧ g 7 ≤ 600 := hg7
  have e1 : (1 : Int32).toInt = 1 := by decide
  have hex : ∀ (pc : Nat) (A : aAn) (mm : Int), anaf sW pc = some A → pc ∈ [57] → Gs rI0 g ρ [17] h d 6 (mgd 68 mtX0_write) (fun r h' => mretok none r = true ∧ (r = none ∧ okH rI0 (gup g 7 (g 7 + 1)) ρ h'.1 ∧ okFr ρ [16, 17] h h')) 0 mm (pc, A) := by
    intro pc A mm hA hpc
    rcases List.mem_cons.mp hpc with rfl | hpc
    rotate_left
    · cases hpc
    rw [sW_e57] at hA
    cases hA
    intro lv st h2 hS _
    have hst := hS.2.2.1.nil
    subst hst
    obtain ⟨v, q1, m', rfl, q3⟩ := hS.2.1.get (x := 0) (t := (3, 16, 0)) rfl
    have q1 : mget lv 0 = some (.ref m') := q1
    have q3 : ρ[m']? = some 16 := q3
    have hmm : m' = m := one_of hS.1 q3 hm (by decide)
    subst hmm
    obtain ⟨fs, c1, c2, c3⟩ := fld hS.1 hm (show rI0 16 = some (.inl (0, rOf 16)) from rfl)
    have hl : fs.length = 2 := c2
    obtain ⟨v1, d1, w, rfl, d2⟩ := c3 1 (1, 7, 0) rfl
    have d2 : w.toInt = g 7 + 0 := d2
    obtain ⟨v0, d3, en, rfl, d4⟩ := c3 0 (3, 17, 0) rfl
    have d5 : (w + 1).toInt = w.toInt + 1 := by rw [add_id (by omega) (by omega), e1]
    have hlm : m' < h2.1.length := (List.getElem?_eq_some_iff.mp c1).1
    refine ⟨400, Int.le_refl _, ?_⟩
    refine mE_aldn 58 rfl q1 rfl rfl ?_
    refine mE_dup 59 rfl rfl rfl ?_
    refine mE_gf 62 rfl rfl c1 d1 rfl ?_
    refine mE_ico 63 1 rfl rfl rfl ?_
    refine mE_iadd 64 (w + 1) rfl rfl rfl ?_
    refine mE_pf 67 rfl c1 (by show (true && Nat.blt 1 fs.length) = true; rw [hl]; rfl) rfl ?_
    refine mE_vret rfl ⟨rfl, rfl, ?_, (hS.2.2.2.2.mono rfl).trans (okFr.set okFr.rfl hm (by decide))⟩
    refine okH_updset hS.1 hm (show rI0 16 = some (.inl (0, rOf 16)) from rfl) ⟨_, rfl, by rw [List.length_set]; exact c2, fun j t v a1 a2 => ?_⟩ (fun k2 r R c hne a1 a2 a3 a4 => ?_)
    · match j, a1 with
      | 0, a1 =>
        rw [List.getElem?_set_ne (by omega), d3] at a2
        cases a2
        have a1 : some ((3, 17, 0) : aV) = some t := a1
        cases a1
        exact ⟨en, rfl, d4⟩
      | 1, a1 =>
        rw [List.getElem?_set_self (by rw [hl]; omega)] at a2
        cases a2
        have a1 : some ((1, 7, 0) : aV) = some t := a1
        cases a1
        exact ⟨w + 1, rfl, by show (w + 1).toInt = gup g 7 (g 7 + 1) 7 + 0; rw [gup_self]; omega⟩
      | j + 2, a1 => cases a1
    · have hr : r ∈ aspk 7 := aspk_ok a3 a4
      have hsp : aspk 7 = [16] := by decide +kernel
      rw [hsp] at hr
      rcases List.mem_cons.mp hr with rfl | hr
      · exact absurd (one_of hS.1 a1 hm (by decide)) hne
      · cases hr
  have G := seg_ok (rt := some (7, 0, 0)) (Int.le_refl 0) hg hall (fun r h' _ _ q => elimT q) sW_k hex
  refine mR_ix [(0, .ref m), (1, .int a), (2, .int b), (3, .int c), (4, .int e)] rfl rfl rfl ?_
  obtain ⟨b, hb, kE⟩ := G _ 0 _ sW_e0 [(0, .ref m), (1, .int a), (2, .int b), (3, .int c), (4, .int e)] [] h ⟨hH, okL.cons (v := .ref m) rfl ⟨m, rfl, hm⟩ (okL.cons (v := .int a) rfl (a32_ok a) (okL.cons (v := .int b) rfl (a32_ok b) (okL.cons (v := .int c) rfl (a32_ok c) (okL.cons (v := .int e) rfl (a32_ok e) okL.nil)))), trivial, lvall _ rfl, okFr.rfl⟩ (Int.le_refl _)
  have hb : (b : Int) ≤ 435 + 0 + 0 := hb
  exact mE_le kE (by show b ≤ 1000000000000; omega)
/-- what a stray of the class may change -/
def strC : List Nat := [14, 15, 16, 17, 25, 26]
set_option maxRecDepth 10000 in
theorem t_stray {d : Nat} (hall : CTall ci_early (d + 1)) {g : Nat → Int} {ρ : List Nat} {m : Nat} {x y : Int32} {h : mS} (hg : okG aBl g) (hH : okH rI0 g ρ h.1) (hm : ρ[m]? = some 0) : mR (d + 3) 73 [.ref m, .int x, .int y] h (fun r h' => ∃ (v : Int32) (n' : Int), r = some (.int v) ∧ okH rI0 (gup g 7 n') ρ h'.1 ∧ okFr ρ strC h h' ∧ (n' = g 7 ∨ n' = g 7 + 1)) := by
  have hex : ∀ (pc : Nat) (A : aAn) (mm : Int), anaf sS pc = some A → pc ∈ [120] → Gs rI0 g ρ [25, 26, 14, 15] h (d + 2) 7 (mgd 138 mtX10_stray) (fun r h' => mretok (some .int) r = true ∧ (∃ (v : Int32) (n' : Int), r = some (.int v) ∧ okH rI0 (gup g 7 n') ρ h'.1 ∧ okFr ρ strC h h' ∧ (n' = g 7 ∨ n' = g 7 + 1))) 0 mm (pc, A) := by
    intro pc A mm hA hpc
    rcases List.mem_cons.mp hpc with rfl | hpc
    rotate_left
    · cases hpc
    rw [sS_e120] at hA
    cases hA
    intro lv st h2 hS _
    have hst := hS.2.2.1.nil
    subst hst
    obtain ⟨v, q1, m', rfl, q3⟩ := hS.2.1.get (x := 0) (t := (3, 0, 0)) rfl
    obtain ⟨v, r1, x1, rfl, -⟩ := hS.2.1.get (x := 1) (t := (2, 0, -1)) rfl
    obtain ⟨v, s1, x2, rfl, -⟩ := hS.2.1.get (x := 2) (t := (2, 1, -1)) rfl
    obtain ⟨v, t1, x6, rfl, -⟩ := hS.2.1.get (x := 6) (t := a32) rfl
    have q1 : mget lv 0 = some (.ref m') := q1
    have q3 : ρ[m']? = some 0 := q3
    obtain ⟨fs, c1, c2, c3⟩ := fld hS.1 q3 rO_eq
    obtain ⟨v8, d1, bk, rfl, d2⟩ := c3 8 (3, 16, 0) rfl
    obtain ⟨v12, f1, nw, rfl, -⟩ := c3 12 (1, 2, 0) rfl
    have d2 : ρ[bk]? = some 16 := d2
    obtain ⟨fb, d3, -, -⟩ := fld hS.1 d2 (show rI0 16 = some (.inl (0, rOf 16)) from rfl)
    refine ⟨400, Int.le_refl _, ?_⟩
    refine mE_aldn 121 rfl q1 rfl rfl ?_
    refine mE_gf 124 rfl rfl c1 d1 rfl ?_
    refine mE_aldn 125 rfl q1 rfl rfl ?_
    refine mE_gf 128 rfl rfl c1 f1 rfl ?_
    refine mE_ildn 129 rfl r1 rfl rfl ?_
    refine mE_ildn 130 rfl s1 rfl rfl ?_
    refine mE_ild 132 rfl t1 rfl rfl ?_
    refine mE_cv [.int nw, .int x1, .int x2, .int x6] [] rfl rfl rfl rfl d3 rfl ?_
    obtain ⟨r, h3, k1, rfl, k2, k3⟩ := r_write (d := d + 1) hall (a := nw) (b := x1) (c := x2) (e := x6) hg hS.1 d2
    refine ⟨_, _, k1, ?_⟩
    refine mE_ild 137 rfl t1 rfl rfl ?_
    exact mE_iret rfl ⟨rfl, x6, g 7 + 1, rfl, k2, (hS.2.2.2.2.mono rfl).trans (k3.mono rfl), Or.inr rfl⟩
  have G := seg_ok (rt := some a32) (Int.le_refl 0) hg (hall.le (Nat.le_succ _)) (fun r h' q1 q2 q3 => by
    obtain ⟨v, rfl, x, rfl, -⟩ := q3
    exact ⟨rfl, x, g 7, rfl, by rw [gup_same]; exact q1, q2.mono rfl, Or.inl rfl⟩) sS_k hex
  refine mR_ix [(0, .ref m), (1, .int x), (2, .int y)] rfl rfl rfl ?_
  obtain ⟨b, hb, kE⟩ := G _ 0 _ sS_e0 [(0, .ref m), (1, .int x), (2, .int y)] [] h ⟨hH, okL.cons (v := .ref m) rfl ⟨m, rfl, hm⟩ (okL.cons (v := .int x) rfl (a32_ok x) (okL.cons (v := .int y) rfl (a32_ok y) okL.nil)), trivial, lvall _ rfl, okFr.rfl⟩ (Int.le_refl _)
  have hb : (b : Int) ≤ 457 + 0 + 0 := hb
  exact mE_le kE (by show b ≤ 1000000000000; omega)
set_option maxRecDepth 10000 in
theorem t_hunger {d : Nat} (hall : CTall ci_early d) {g : Nat → Int} {ρ : List Nat} {m : Nat} {x : Int32} {h : mS} (hg : okG aBl g) (hH : okH rI0 g ρ h.1) (hm : ρ[m]? = some 0) : mR (d + 1) 67 [.ref m, .int x] h (fun r h' => ∃ v : Int32, r = some (.int v) ∧ h' = h) := by
  have hex : ∀ (pc : Nat) (A : aAn) (mm : Int), anaf sH pc = some A → pc ∈ [18] → Gs rI0 g ρ [] h d 3 (mgd 40 mtX10_hunger) (fun r h' => mretok (some .int) r = true ∧ ∃ v : Int32, r = some (.int v) ∧ h' = h) 0 mm (pc, A) := by
    intro pc A mm hA hpc
    rcases List.mem_cons.mp hpc with rfl | hpc
    rotate_left
    · cases hpc
    rw [sH_e18] at hA
    cases hA
    intro lv st h2 hS _
    have hst := hS.2.2.1.nil
    subst hst
    have hs := same_of hH hS.1 hS.2.2.2.2
    obtain ⟨v, q1, k, rfl, q3⟩ := hS.2.1.get (x := 2) (t := (3, 25, 0)) rfl
    have q1 : mget lv 2 = some (.ref k) := q1
    have q3 : ρ[k]? = some 25 := q3
    obtain ⟨fs, c1, -, c3⟩ := fld hS.1 q3 (show rI0 25 = some (.inl (4, rOf 25)) from rfl)
    obtain ⟨v1, d1, n, rfl, -⟩ := c3 1 a32 rfl
    obtain ⟨v2, d2, bn, rfl, -⟩ := c3 2 a32 rfl
    refine ⟨400, Int.le_refl _, ?_⟩
    refine mE_aldn 19 rfl q1 rfl rfl ?_
    refine mE_gf 22 rfl rfl c1 d1 rfl ?_
    refine mE_if_ne rfl (fun hn => ?_) (fun hn => ?_)
    · refine mE_aldn 31 rfl q1 rfl rfl ?_
      refine mE_gf 34 rfl rfl c1 d2 rfl ?_
      refine mE_aldn 35 rfl q1 rfl rfl ?_
      refine mE_gf 38 rfl rfl c1 d1 rfl ?_
      refine mE_idiv 39 _ rfl hn rfl rfl ?_
      exact mE_iret rfl ⟨rfl, _, rfl, hs⟩
    · refine mE_ldci 27 100000 rfl rfl rfl rfl ?_
      refine mE_goto 39 rfl rfl ?_
      exact mE_iret rfl ⟨rfl, _, rfl, hs⟩
  have G := seg_ok (rt := some a32) (Int.le_refl 0) hg hall (fun r h' q1 q2 q3 => by
    obtain ⟨v, rfl, x, rfl, -⟩ := q3
    exact ⟨rfl, x, rfl, same_of hH q1 q2⟩) sH_k hex
  refine mR_ix [(0, .ref m), (1, .int x)] rfl rfl rfl ?_
  obtain ⟨b, hb, kE⟩ := G _ 0 _ sH_e0 [(0, .ref m), (1, .int x)] [] h ⟨hH, okL.cons (v := .ref m) rfl ⟨m, rfl, hm⟩ (okL.cons (v := .int x) rfl (a32_ok x) okL.nil), trivial, lvall _ rfl, okFr.rfl⟩ (Int.le_refl _)
  have hb : (b : Int) ≤ 409 + 0 + 0 := hb
  exact mE_le kE (by show b ≤ 1000000000000; omega)
