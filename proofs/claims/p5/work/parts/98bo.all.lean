/-! the tape is the same on both sides: between all calls -/
def fF24 (ci j : Nat) : Bool := Nat.beq ci 11 && Nat.beq j 24
def S24 : List Nat := [0, 1, 2, 3, 4, 5, 6, 7, 8, 9, 10, 11, 12, 13, 14, 15, 16, 17, 18, 19, 20, 21, 22, 23, 24, 25, 26, 27, 28, 29, 30, 31, 32, 33, 34, 35, 36, 37, 38, 39, 40, 41, 42, 43, 44, 45, 46, 47, 48, 49, 50, 51, 52, 53, 54, 55, 56, 57, 58, 59, 60, 61, 62, 63, 64, 65, 66, 67, 68, 69, 70, 71, 72, 73, 74, 75, 76, 77, 78, 79, 80, 81, 82, 83, 84, 85, 86, 87, 88, 89, 90, 91, 92, 93, 94, 95, 96, 97, 98, 99, 100, 101, 102, 103, 104, 105, 106, 107, 108, 109, 110, 111, 112, 113, 114, 115, 116, 117, 118, 119, 120, 121, 122, 126, 127, 128, 129, 130, 131, 132, 133, 134, 135, 136, 137, 138, 139, 140, 141, 142, 143, 144, 145, 146, 147, 148, 149, 150, 151, 152, 153, 154, 155, 156, 157, 158, 159, 160, 161, 162, 163, 164, 165, 166, 167, 168]
set_option maxRecDepth 100000 in
theorem fS_24 : fSet fF24 S24 = true := by decide +kernel
def JT (h : List mC) : Prop := ∃ (n : Int32) (bs cs : List Int32) (fs : List Value), h[6]? = some (.inr (8, [.ref 7, .int n])) ∧ h[7]? = some (.inl (0, .inl bs)) ∧ h[67]? = some (.inl (0, .inl cs)) ∧ h[47]? = some (.inr (11, fs)) ∧ fs[24]? = some (.int n) ∧ tpOk n bs ∧ cs.length = 60 ∧ ∀ k : Nat, (k : Int) < n.toInt → bs[k]? = cs[k]?
theorem JT_fr {h h2 : List mC} (e6 : h2[6]? = h[6]?) (e7 : h2[7]? = h[7]?) (e67 : h2[67]? = h[67]?) (hf : fk fF24 h h2) (hJ : JT h) : JT h2 := by
  obtain ⟨n, bs, cs, fs, a1, a2, a3, a4, a5, a6, a7, a8⟩ := hJ
  obtain ⟨fs', b1, b2⟩ := hf 47 11 fs a4
  exact ⟨n, bs, cs, fs', e6.trans a1, e7.trans a2, e67.trans a3, b1, (b2 24 rfl).trans a5, a6, a7, a8⟩
def JA (h : List mC) : Prop := JR h ∧ JT h
theorem nmem {K md : List Nat} (hm : K.all (fun r => !md.elem r) = true) {r : Nat} (hr : r ∈ K) : r ∉ md := fun q => by
  have := List.all_eq_true.mp hm r hr
  rw [List.elem_eq_true_of_mem q] at this
  cases this
theorem ja_of {md : List Nat} {y1 y2 : Nat} {as : List Value} {C : Int32 → Int32 → Prop} (hb : bothI md y1 y2 as C) (hm : [4, 31, 6, 7, 50].all (fun r => !md.elem r) = true) (s1 : S24.elem y1 = true) (s2 : S24.elem y2 = true) : bothJ JA y1 y2 as C :=
  bothJ_of hb (fun i g ρ h ha hb v1 v2 hI hf _ c1 c2 hJ => by
    refine ⟨?_, JT_fr (hf 6 6 rfl (nmem hm (by decide))) (hf 7 7 rfl (nmem hm (by decide))) (hf 67 50 rfl (nmem hm (by decide))) ((mcall_fk fS_24 _ _ _ _ _ _ (elem_mem s1) c1).trans (mcall_fk fS_24 _ _ _ _ _ _ (elem_mem s2) c2)) hJ.2⟩
    show hb.1[4]? = hb.1[48]?
    rw [hf 4 4 rfl (nmem hm (by decide)), hf 48 31 rfl (nmem hm (by decide))]
    exact hJ.1)
theorem bothJ_add {J1 J2 : List mC → Prop} {md : List Nat} {y1 y2 : Nat} {as : List Value} {C C' : Int32 → Int32 → Prop} (a : bothJ J1 y1 y2 as C) (hb : bothI md y1 y2 as C') (hJ : ∀ (h h1 h2 : mS) (v1 v2 : Int32), (∀ k r : Nat, ρ00[k]? = some r → r ∉ md → h2.1[k]? = h.1[k]?) → mcall 720 y1 (.ref 0 :: as) h = some (some (.int v1), h1) → mcall 720 y2 (.ref 47 :: as) h1 = some (some (.int v2), h2) → J2 h.1 → J2 h2.1) : bothJ (fun h => J1 h ∧ J2 h) y1 y2 as C := by
  intro i g ρ h hi hI
  obtain ⟨v1, v2, h1, h2, g', ρ', fs, e1, e2, e3, e4, e5⟩ := a i g ρ h hi ⟨hI.1, hI.2.1⟩
  obtain ⟨w1, w2, k1, k2, -, -, -, d1, -, d3, -, -, d6, -⟩ := hb i g ρ h hi hI.1
  rw [e1] at d1
  cases d1
  rw [e3] at d3
  cases d3
  obtain ⟨i1, i2, i3, i4, i5, i7, i9, i10, i11, i12, i13⟩ := id hI.1
  exact ⟨v1, v2, h1, h2, g', ρ', fs, e1, e2, e3, ⟨e4.1, e4.2, hJ h h1 h2 v1 v2 (fun k r q1 q2 => d6 k r (at_rho i13 (Nat.lt_of_lt_of_le (List.getElem?_eq_some_iff.mp q1).1 (Nat.le_of_ble_eq_true rfl)) q1) q2) e1 e3 hI.2.2⟩, e5⟩
theorem ja_rain (x y : Int32) : bothJ JA 60 130 [.int x, .int y] (fun v1 v2 => v1 = v2) :=
  bothJ_add (j_rain x y) (i_rain x y) (fun h h1 h2 v1 v2 hf c1 c2 hJ => JT_fr (hf 6 6 rfl (by decide)) (hf 7 7 rfl (by decide)) (hf 67 50 rfl (by decide)) ((mcall_fk fS_24 _ _ _ _ _ _ (elem_mem rfl) c1).trans (mcall_fk fS_24 _ _ _ _ _ _ (elem_mem rfl) c2)) hJ)
theorem fd_ok (y : Int32) : ∀ (j : Nat) (i n : Int32) (bs cs : List Int32), bs.length = 60 → cs.length = 60 → 0 ≤ n.toInt → n.toInt + j ≤ 60 → (∀ (k : Nat) (b : Int32), (k : Int) < n.toInt → bs[k]? = some b → 0 ≤ b.toInt ∧ b.toInt ≤ 255) → (∀ k : Nat, (k : Int) < n.toInt → bs[k]? = cs[k]?) → (fdF y j i n bs).length = 60 ∧ (fdF y j i n cs).length = 60 ∧ (∀ (k : Nat) (b : Int32), (k : Int) < n.toInt + j → (fdF y j i n bs)[k]? = some b → 0 ≤ b.toInt ∧ b.toInt ≤ 255) ∧ (∀ k : Nat, (k : Int) < n.toInt + j → (fdF y j i n bs)[k]? = (fdF y j i n cs)[k]?) := by
  have e1 : (1 : Int32).toInt = 1 := by decide
  intro j
  induction j with
  | zero =>
    intro i n bs cs h1 h2 h3 h4 h5 h6
    exact ⟨h1, h2, fun k b q => h5 k b (by omega), fun k q => h6 k (by omega)⟩
  | succ j ih =>
    intro i n bs cs h1 h2 h3 h4 h5 h6
    have ni : (n + 1).toInt = n.toInt + 1 := by rw [add_id (by omega) (by omega), e1]
    have nc : (n.toNatClampNeg : Int) = n.toInt := by
      show ((n.toInt.toNat : Nat) : Int) = n.toInt
      omega
    have hA : ∀ (k : Nat) (b : Int32), (k : Int) < (n + 1).toInt → (bs.set n.toNatClampNeg (mb y i))[k]? = some b → 0 ≤ b.toInt ∧ b.toInt ≤ 255 := by
      intro k b q e
      by_cases he : n.toNatClampNeg = k
      · subst he
        rw [List.getElem?_set_self (by omega)] at e
        cases e
        exact mb_rng y i
      · rw [List.getElem?_set_ne he] at e
        exact h5 k b (by omega) e
    have hB : ∀ k : Nat, (k : Int) < (n + 1).toInt → (bs.set n.toNatClampNeg (mb y i))[k]? = (cs.set n.toNatClampNeg (mb y i))[k]? := by
      intro k q
      by_cases he : n.toNatClampNeg = k
      · subst he
        rw [List.getElem?_set_self (by omega), List.getElem?_set_self (by omega)]
      · rw [List.getElem?_set_ne he, List.getElem?_set_ne he]
        exact h6 k (by omega)
    obtain ⟨a1, a2, a3, a4⟩ := ih (i + 1) (n + 1) (bs.set n.toNatClampNeg (mb y i)) (cs.set n.toNatClampNeg (mb y i)) (by rw [List.length_set]; exact h1) (by rw [List.length_set]; exact h2) (by omega) (by omega) hA hB
    exact ⟨a1, a2, fun k b q => a3 k b (by omega), fun k q => a4 k (by omega)⟩
theorem tp_take {n : Int32} {bs cs : List Int32} (ht : tpOk n bs) (h1 : cs.length = 60) (h2 : ∀ k : Nat, (k : Int) < n.toInt → bs[k]? = cs[k]?) : tpOk n cs ∧ flT n cs = flT n bs := by
  obtain ⟨a1, a2, a3, a4⟩ := ht
  have nc : (n.toNatClampNeg : Int) = n.toInt := by
    show ((n.toInt.toNat : Nat) : Int) = n.toInt
    omega
  refine ⟨⟨a1, a2, h1, fun k b q e => a4 k b q (by rw [h2 k q]; exact e)⟩, ?_⟩
  unfold flT
  congr 1
  apply List.ext_getElem?
  intro k
  by_cases hk : k < n.toNatClampNeg
  · rw [List.getElem?_take_of_lt hk, List.getElem?_take_of_lt hk, h2 k (by omega)]
  · rw [List.getElem?_eq_none (by rw [List.length_take]; omega), List.getElem?_eq_none (by rw [List.length_take]; omega)]
/-- the contract of a call of the class, at its run -/
theorem ct_C {y : Nat} {ts : List aV} {ret : aV} {md : List Nat} {as : List Value} (hc : CT rI0 aBl 711 (y, (3, 0, 0) :: ts, [], some (ret, 0, a32), md)) (h1 : ts.all (fun t => decide (t = a32)) = true) (h2 : as.all misint = true) (h3 : as.length = ts.length) {g : Nat → Int} {ρ : List Nat} {h h' : mS} {r : Option Value} (hg : okG aBl g) (hH : okH rI0 g ρ h.1) (hm : ρ[0]? = some 0) (e : mcall 720 y (.ref 0 :: as) h = some (r, h')) : okH rI0 g ρ h'.1 ∧ okFr ρ md h h' := by
  obtain ⟨r', h'', e1, e2, e3, -⟩ := hc g ρ (.ref 0 :: as) h hg hH ⟨⟨0, rfl, hm⟩, all32 h1 h2 h3⟩ (fun q hq => by cases hq)
  have e1 := mcall_le (show 711 ≤ 720 by omega) e1
  have e1 : mcall 720 y (.ref 0 :: as) h = some (r', h'') := e1
  rw [e] at e1
  cases e1
  exact ⟨e2, e3⟩
theorem ct_M {y : Nat} {ts : List aV} {ret : aV} {md : List Nat} {as : List Value} (hc : CT rI0 aBl 711 (y, (3, 30, 0) :: ts, [], some (ret, 0, a32), md)) (h1 : ts.all (fun t => decide (t = a32)) = true) (h2 : as.all misint = true) (h3 : as.length = ts.length) {g : Nat → Int} {ρ : List Nat} {h h' : mS} {r : Option Value} (hg : okG aBl g) (hH : okH rI0 g ρ h.1) (hm : ρ[47]? = some 30) (e : mcall 720 y (.ref 47 :: as) h = some (r, h')) : okH rI0 g ρ h'.1 ∧ okFr ρ md h h' := by
  obtain ⟨r', h'', e1, e2, e3, -⟩ := hc g ρ (.ref 47 :: as) h hg hH ⟨⟨47, rfl, hm⟩, all32 h1 h2 h3⟩ (fun q hq => by cases hq)
  have e1 := mcall_le (show 711 ≤ 720 by omega) e1
  have e1 : mcall 720 y (.ref 47 :: as) h = some (r', h'') := e1
  rw [e] at e1
  cases e1
  exact ⟨e2, e3⟩
theorem jr_fr {h h2 : List mC} {md : List Nat} (hf : ∀ k r : Nat, ρ00[k]? = some r → r ∉ md → h2[k]? = h[k]?) (h1 : md.elem 4 = false) (h2' : md.elem 31 = false) (hJ : JR h) : JR h2 := by
  show h2[4]? = h2[48]?
  rw [hf 4 4 rfl (fun q => by rw [List.elem_eq_true_of_mem q] at h1; cases h1), hf 48 31 rfl (fun q => by rw [List.elem_eq_true_of_mem q] at h2'; cases h2')]
  exact hJ
set_option maxHeartbeats 1000000 in
theorem ja_feed (x y : Int32) : bothJ JA 68 123 [.int x, .int y] (fun v1 v2 => v1 = v2) := by
  intro i g ρ h hi hI
  obtain ⟨v1, v2, h1, h2, g', ρ', fs9, e1, e2, e3, e4, -, e6, -⟩ := i_feed x y i g ρ h hi hI.1
  obtain ⟨i1, i2, i3, i4, i5, i7, i9, i10, i11, i12, i13⟩ := id hI.1
  have e6 : ∀ k r : Nat, ρ00[k]? = some r → r ∉ ([6, 7] ++ [30, 50]) → h2.1[k]? = h.1[k]? := fun k r q1 q2 => e6 k r (at_rho i13 (Nat.lt_of_lt_of_le (List.getElem?_eq_some_iff.mp q1).1 (Nat.le_of_ble_eq_true rfl)) q1) q2
  obtain ⟨jr, n, bs, cs, fs, a1, a2, a3, a4, a5, a6, a7, a8⟩ := hI.2
  obtain ⟨f0, nw, b1, ⟨f5, -⟩, -⟩ := cx_C i1 i13
  obtain ⟨fsM, nwM, m1, ⟨m2, -⟩, -⟩ := cx_M i1 i13
  rw [a4] at m1
  cases m1
  obtain ⟨hH1, hF1⟩ := ct_C (hallA (Nat.le_refl _) ci_C_feed _ rfl) rfl rfl rfl i4 i1 i2 e1
  have n47 : h1.1[47]? = some (.inr (11, fs)) := (hF1.1 47 30 i3 (by decide)).trans a4
  have n67 : h1.1[67]? = some (.inl (0, .inl cs)) := (hF1.1 67 50 (at_rho i13 (by decide) rfl) (by decide)).trans a3
  obtain ⟨r1, hA, c1, c2⟩ := r_feed (d := 718) f5 (x := x) (y := y) b1 a1 a2 a6.2.2.1 a6.1 a6.2.1
  rw [e1] at c1
  cases c1
  obtain ⟨r2, hB, c3, c4⟩ := r_Mfeed (d := 718) m2 (x := x) (y := y) a5 n47 n67 a7 a6.1 a6.2.1
  rw [e3] at c3
  cases c3
  have jr2 : JR h2.1 := jr_fr e6 rfl rfl jr
  have stay : h1 = h → h2 = h1 → JT h2.1 := fun q1 q2 => by rw [q2, q1]; exact ⟨n, bs, cs, fs, a1, a2, a3, a4, a5, a6, a7, a8⟩
  refine ⟨v1, v2, h1, h2, g', ρ', fs9, e1, e2, e3, ⟨e4, jr2, ?_⟩, ?_⟩
  · rcases c2 with ⟨p1, -, p3⟩ | ⟨p1, p2, -, p3⟩ | ⟨p1, p2, n', p3, -, p5, p6⟩ <;> rcases c4 with ⟨q1, -, q3⟩ | ⟨q1, q2, -, q3⟩ | ⟨q1, q2, n'', q3, -, q5⟩
    · exact stay p3 q3
    · exact absurd q1 p1
    · exact absurd q1 p1
    · exact absurd p1 q1
    · exact stay p3 q3
    · omega
    · exact absurd p1 q1
    · omega
    · have hn : n' = n'' := Int32.toInt_inj.mp (by omega)
      subst hn
      have xc : (x.toNatClampNeg : Int) = x.toInt := by
        have := p1.1
        show ((x.toInt.toNat : Nat) : Int) = x.toInt
        omega
      obtain ⟨t1, t2, t3, t4⟩ := fd_ok y x.toNatClampNeg 0 n bs cs a6.2.2.1 a7 a6.1 (by omega) a6.2.2.2 a8
      have hx0 := p1.1
      have hn0 := a6.1
      have l47 : 47 < h1.1.length := (List.getElem?_eq_some_iff.mp n47).1
      have l67 : 67 < h1.1.length := (List.getElem?_eq_some_iff.mp n67).1
      refine ⟨n', _, _, fs.set 24 (.int n'), ?_, ?_, ?_, ?_, List.getElem?_set_self (List.getElem?_eq_some_iff.mp a5).1, ⟨by omega, by omega, t1, fun k b q => t3 k b (by omega)⟩, t2, fun k q => t4 k (by omega)⟩
      · rw [q5]
        exact (List.getElem?_set_ne (by decide)).trans ((List.getElem?_set_ne (by decide)).trans p5)
      · rw [q5]
        exact (List.getElem?_set_ne (by decide)).trans ((List.getElem?_set_ne (by decide)).trans p6)
      · rw [q5]
        exact (List.getElem?_set_ne (by decide)).trans (List.getElem?_set_self l67)
      · rw [q5]
        exact List.getElem?_set_self (by rw [List.length_set]; exact l47)
  · rcases c2 with ⟨p1, p2, -⟩ | ⟨p1, p2, p3, -⟩ | ⟨p1, p2, n', p3, p4, -⟩ <;> rcases c4 with ⟨q1, q2, -⟩ | ⟨q1, q2, q3, -⟩ | ⟨q1, q2, n'', q3, q4, -⟩
    · cases p2; cases q2; rfl
    · exact absurd q1 p1
    · exact absurd q1 p1
    · exact absurd p1 q1
    · cases p3; cases q3; rfl
    · omega
    · exact absurd p1 q1
    · omega
    · cases p4
      cases q4
      exact Int32.toInt_inj.mp (by omega)
theorem ja_clear : bothJ JA 70 125 [] (fun v1 v2 => v1 = v2) := by
  intro i g ρ h hi hI
  obtain ⟨v1, v2, h1, h2, g', ρ', fs9, e1, e2, e3, e4, -, e6, -⟩ := i_clear i g ρ h hi hI.1
  obtain ⟨i1, i2, i3, i4, i5, i7, i9, i10, i11, i12, i13⟩ := id hI.1
  have e6 : ∀ k r : Nat, ρ00[k]? = some r → r ∉ ([6] ++ [30]) → h2.1[k]? = h.1[k]? := fun k r q1 q2 => e6 k r (at_rho i13 (Nat.lt_of_lt_of_le (List.getElem?_eq_some_iff.mp q1).1 (Nat.le_of_ble_eq_true rfl)) q1) q2
  obtain ⟨jr, n, bs, cs, fs, a1, a2, a3, a4, a5, a6, a7, a8⟩ := hI.2
  obtain ⟨f0, nw, b1, ⟨f5, -⟩, -⟩ := cx_C i1 i13
  obtain ⟨r1, hA, c1, c2, c2'⟩ := r_clear (d := 719) f5 b1 a1
  rw [e1] at c1
  cases c1
  cases c2
  subst c2'
  have n47 : (h.1.set 6 (.inr (8, [.ref 7, .int 0])))[47]? = some (.inr (11, fs)) := (List.getElem?_set_ne (by decide)).trans a4
  obtain ⟨r2, hB, c3, c4, c4'⟩ := r_Mclear (d := 719) (h := (h.1.set 6 (.inr (8, [.ref 7, .int 0])), h.2)) a5 n47
  rw [e3] at c3
  cases c3
  cases c4
  subst c4'
  refine ⟨_, _, _, _, g', ρ', fs9, e1, e2, e3, ⟨e4, jr_fr e6 rfl rfl jr, ?_⟩, rfl⟩
  have z0 : (0 : Int32).toInt = 0 := by decide
  refine ⟨0, bs, cs, fs.set 24 (.int 0), (List.getElem?_set_ne (by decide)).trans (List.getElem?_set_self (List.getElem?_eq_some_iff.mp a1).1), (List.getElem?_set_ne (by decide)).trans ((List.getElem?_set_ne (by decide)).trans a2), (List.getElem?_set_ne (by decide)).trans ((List.getElem?_set_ne (by decide)).trans a3), List.getElem?_set_self (List.getElem?_eq_some_iff.mp n47).1, List.getElem?_set_self (List.getElem?_eq_some_iff.mp a5).1, ⟨by decide, by decide, a6.2.2.1, fun k b q => by omega⟩, a7, fun k q => by omega⟩
set_option maxHeartbeats 1000000 in
theorem ja_make (x y : Int32) : bothJ JA 69 124 [.int x, .int y] (fun v1 v2 => v1 = v2) := by
  intro i g ρ h hi hI
  obtain ⟨v1, v2, h1, h2, g', ρ', fs9, e1, e2, e3, e4, -, e6, -⟩ := i_make x y i g ρ h hi hI.1
  obtain ⟨i1, i2, i3, i4, i5, i7, i9, i10, i11, i12, i13⟩ := id hI.1
  have e6 : ∀ k r : Nat, ρ00[k]? = some r → r ∉ ([6, 8, 9, 10, 11, 12, 24] ++ [30, 51, 52, 53, 54]) → h2.1[k]? = h.1[k]? := fun k r q1 q2 => e6 k r (at_rho i13 (Nat.lt_of_lt_of_le (List.getElem?_eq_some_iff.mp q1).1 (Nat.le_of_ble_eq_true rfl)) q1) q2
  obtain ⟨jr, n, bs, cs, fs, a1, a2, a3, a4, a5, a6, a7, a8⟩ := hI.2
  obtain ⟨hH1, hF1⟩ := ct_C (hallA (Nat.le_refl _) ci_C_make _ rfl) rfl rfl rfl i4 i1 i2 e1
  obtain ⟨hH2, hF2⟩ := ct_M (hallA (Nat.le_refl _) ci_M_make _ rfl) rfl rfl rfl i4 hH1 i3 e3
  have n47 : h1.1[47]? = some (.inr (11, fs)) := (hF1.1 47 30 i3 (by decide)).trans a4
  have n67 : h1.1[67]? = some (.inl (0, .inl cs)) := (hF1.1 67 50 (at_rho i13 (by decide) rfl) (by decide)).trans a3
  have n6 : h2.1[6]? = h1.1[6]? := hF2.1 6 6 (at_rho i13 (by decide) rfl) (by decide)
  obtain ⟨tC, tF⟩ := tp_take a6 a7 a8
  obtain ⟨r1, hA, c1, c2⟩ := r_make (d := 709) (hallE (by omega)) i4 i1 i13 (x := x) (y := y) a6 a1 a2
  rw [e1] at c1
  cases c1
  obtain ⟨r2, hB, c3, c4⟩ := r_Mmake (d := 716) (hallE (by omega)) i4 hH1 i13 (x := x) (y := y) tC n47 a5 n67
  rw [e3] at c3
  cases c3
  rw [← i11] at c4
  have jr2 : JR h2.1 := jr_fr e6 rfl rfl jr
  have k7 : h2.1[7]? = some (.inl (0, .inl bs)) := (e6 7 7 rfl (by decide)).trans a2
  have k67 : h2.1[67]? = some (.inl (0, .inl cs)) := (e6 67 50 rfl (by decide)).trans a3
  have stay : h2.1[6]? = h.1[6]? → h2.1[47]? = h.1[47]? → JT h2.1 := fun q1 q2 => ⟨n, bs, cs, fs, q1.trans a1, k7, k67, q2.trans a4, a5, a6, a7, a8⟩
  have o47 : h1.1[47]? = h.1[47]? := hF1.1 47 30 i3 (by decide)
  refine ⟨v1, v2, h1, h2, g', ρ', fs9, e1, e2, e3, ⟨e4, jr2, ?_⟩, ?_⟩
  · rcases c2 with ⟨p1, -, p3⟩ | ⟨p1, ⟨p2, -, p3⟩ | ⟨p2, -, p3⟩⟩ <;> rcases c4 with ⟨q1, -, q3⟩ | ⟨q1, ⟨q2, -, fs', q3, q4⟩ | ⟨q2, -, q3⟩⟩
    · rw [q3, p3]
      exact ⟨n, bs, cs, fs, a1, a2, a3, a4, a5, a6, a7, a8⟩
    · exact absurd q1 p1
    · exact absurd q1 p1
    · exact absurd p1 q1
    · have z0 : (0 : Int32).toInt = 0 := by decide
      exact ⟨0, bs, cs, fs', n6.trans p3, k7, k67, q3, q4, ⟨by decide, by decide, a6.2.2.1, fun k b q => by omega⟩, a7, fun k q => by omega⟩
    · rw [tF] at q2
      exact absurd p2 q2
    · exact absurd p1 q1
    · rw [tF] at q2
      exact absurd q2 p2
    · exact stay (n6.trans p3) (q3.trans o47)
  · rcases c2 with ⟨p1, p2, -⟩ | ⟨p1, ⟨p2, p3, -⟩ | ⟨p2, p3, -⟩⟩ <;> rcases c4 with ⟨q1, q2, -⟩ | ⟨q1, ⟨q2, q3, -⟩ | ⟨q2, q3, -⟩⟩
    · cases p2; cases q2; rfl
    · exact absurd q1 p1
    · exact absurd q1 p1
    · exact absurd p1 q1
    · cases p3; cases q3; rfl
    · rw [tF] at q2
      exact absurd p2 q2
    · exact absurd p1 q1
    · rw [tF] at q2
      exact absurd q2 p2
    · rw [tF] at q3
      cases p3
      cases q3
      rfl
theorem ja_house (x y : Int32) : bothJ JA 58 128 [.int x, .int y] (fun v1 v2 => v1 = v2) := ja_of (i_house x y) rfl rfl rfl
theorem ja_strip (x y z : Int32) : bothJ JA 59 129 [.int x, .int y, .int z] (fun v1 v2 => v1 = v2) := ja_of (i_strip x y z) rfl rfl rfl
theorem ja_beasts (x y : Int32) : bothJ JA 61 131 [.int x, .int y] (fun _ _ => True) := ja_of (i_beasts x y) rfl rfl rfl
theorem ja_sow (x : Int32) : bothJ JA 62 133 [.int x] (fun _ _ => True) := ja_of (i_sow x) rfl rfl rfl
theorem ja_reap (x : Int32) : bothJ JA 63 135 [.int x] (fun _ _ => True) := ja_of (i_reap x) rfl rfl rfl
theorem ja_week (x : Int32) : bothJ JA 64 141 [.int x] (fun v1 v2 => v1 = v2) := ja_of (i_week x) rfl rfl rfl
theorem ja_land (x y : Int32) : bothJ JA 65 142 [.int x, .int y] (fun _ _ => True) := ja_of (i_land x y) rfl rfl rfl
theorem ja_hold (x y : Int32) : bothJ JA 66 146 [.int x, .int y] (fun _ _ => True) := ja_of (i_hold x y) rfl rfl rfl
theorem ja_hunger (x : Int32) : bothJ JA 67 147 [.int x] (fun _ _ => True) := ja_of (i_hunger x) rfl rfl rfl
theorem ja_law (x y z : Int32) : bothJ JA 71 126 [.int x, .int y, .int z] (fun _ _ => True) := ja_of (i_law x y z) rfl rfl rfl
theorem ja_text (x y : Int32) : bothJ JA 72 127 [.int x, .int y] (fun _ _ => True) := ja_of (i_text x y) rfl rfl rfl
theorem ja_stray (x y : Int32) : bothJ JA 73 148 [.int x, .int y] (fun _ _ => True) := ja_of (i_stray x y) rfl rfl rfl
theorem ja_book (x y : Int32) : bothJ JA 74 149 [.int x, .int y] (fun _ _ => True) := ja_of (i_book x y) rfl rfl rfl
theorem ja_apart (x : Int32) : bothJ JA 75 150 [.int x] (fun v1 v2 => v1 = v2) := ja_of (i_apart x) rfl rfl rfl
theorem ja_court : bothJ JA 76 151 [] (fun _ _ => True) := ja_of (i_court) rfl rfl rfl
theorem ja_swap (x y : Int32) : bothJ JA 77 155 [.int x, .int y] (fun _ _ => True) := ja_of (i_swap x y) rfl rfl rfl
theorem ja_better : bothJ JA 78 157 [] (fun _ _ => True) := ja_of (i_better) rfl rfl rfl
theorem ja_fewest (x : Int32) : bothJ JA 79 159 [.int x] (fun _ _ => True) := ja_of (i_fewest x) rfl rfl rfl
theorem ja_count (x : Int32) : bothJ JA 80 160 [.int x] (fun _ _ => True) := ja_of (i_count x) rfl rfl rfl
