/-! by-laws: the class and the reference hold the same, between all calls -/
theorem nlt_of {n : Int32} {j : Nat} (h : (j : Int) < n.toInt) : j < n.toNatClampNeg := by
  show j < n.toInt.toNat
  omega
def Tq (n : Int32) (T : List Int32) (off : Nat) (sz : Int32) (bs : List Int32) : Prop := sz = n ∧ ∀ j : Nat, (j : Int) < n.toInt → bs[j]? = T[off + j]?
def JLq (w : Int) (h : List mC) (T N W : List Int32) (q a b : Nat) (wt fr : Int32) : Prop := ∃ n0 n1 u : Int32, N[2 * q]? = some n0 ∧ N[2 * q + 1]? = some n1 ∧ W[q]? = some u ∧ ((0 ≤ n0.toInt ∧ n0.toInt ≤ 60) ∧ (0 ≤ n1.toInt ∧ n1.toInt ≤ 60)) ∧ ((n1.toInt = 0 ∧ wt = 0 ∧ ∃ sz bs, Tx h a sz bs ∧ Tq n0 T (120 * q) sz bs) ∨ (0 < n1.toInt ∧ u.toInt ≤ w ∧ wt = 0 ∧ ∃ sz bs, Tx h a sz bs ∧ Tq n1 T (120 * q + 60) sz bs) ∨ (0 < n1.toInt ∧ w < u.toInt ∧ ¬ wt = 0 ∧ fr = u ∧ (∃ sz bs, Tx h a sz bs ∧ Tq n0 T (120 * q) sz bs) ∧ ∃ sz bs, Tx h b sz bs ∧ Tq n1 T (120 * q + 60) sz bs))
/-- the seven texts, each in one place -/
def DS (A B : Nat → Nat) (kd : Nat) : Prop := kd ∈ T7 ∧ ∀ q : Nat, q < 3 → (A q ∈ T7 ∧ B q ∈ T7) ∧ (A q ≠ B q ∧ A q ≠ kd ∧ B q ≠ kd) ∧ ∀ p : Nat, p < 3 → p ≠ q → A q ≠ A p ∧ A q ≠ B p ∧ B q ≠ A p ∧ B q ≠ B p
def nowOf (h : List mC) (nw : Int32) : Prop := ∃ f0 : List Value, h[0]? = some (.inr (10, f0)) ∧ f0[12]? = some (.int nw)
def JLx (h : List mC) (A B : Nat → Nat) (WT FR : Nat → Int32) (kd : Nat) (T N W : List Int32) (nw : Int32) : Prop := (lwH h A B WT FR ∧ h[5]? = some (.inl (5, .inr [some 26, some 33, some 40])) ∧ drf h kd ∧ mlH h T N W ∧ nowOf h nw) ∧ (DS A B kd ∧ (∀ t ∈ T7, ∃ sz bs, Tx h t sz bs)) ∧ ∀ q : Nat, q < 3 → JLq nw.toInt h T N W q (A q) (B q) (WT q) (FR q)
def JL (h : List mC) : Prop := ∃ (A B : Nat → Nat) (WT FR : Nat → Int32) (kd : Nat) (T N W : List Int32) (nw : Int32), JLx h A B WT FR kd T N W nw
theorem DS_mem {A B : Nat → Nat} {kd : Nat} (h : DS A B kd) {q : Nat} (hq : q < 3) : A q ∈ T7 ∧ B q ∈ T7 := (h.2 q hq).1
/-- a kind, some weeks on, what waited in the reference perhaps come into force -/
theorem JLq_step {w w' : Int} (hw : w ≤ w') {h h2 : List mC} {T N W T' N' : List Int32} {q a b : Nat} {wt fr : Int32} (hJ : JLq w h T N W q a b wt fr) (hr : rrq T N W T' N' w' q) (ha : ∀ (sz : Int32) (bs : List Int32), Tx h a sz bs → Tx h2 a sz bs) (hb : ∀ (sz : Int32) (bs : List Int32), Tx h b sz bs → Tx h2 b sz bs) (a' b' : Nat) (wt' : Int32) (he : lwC a' b' wt' fr = rcI (w' - w) w a b wt fr) : JLq w' h2 T' N' W q a' b' wt' fr := by
  obtain ⟨n0, n1, u, e0, e1, e2, ⟨r0, r1⟩, c⟩ := hJ
  have same : ¬ (¬ wt = 0 ∧ fr.toInt ≤ w' ∧ w < w') → a' = a ∧ b' = b ∧ wt' = wt := fun z => by
    unfold rcI at he
    rw [if_neg (fun y => z ⟨y.1, by omega, by omega⟩)] at he
    cases he
    exact ⟨rfl, rfl, rfl⟩
  have swp : (¬ wt = 0 ∧ fr.toInt ≤ w' ∧ w < w') → a' = b ∧ b' = a ∧ wt' = 0 := fun z => by
    unfold rcI at he
    rw [if_pos ⟨z.1, by omega, by omega⟩] at he
    cases he
    exact ⟨rfl, rfl, rfl⟩
  rcases hr with ⟨x1, x2, x3⟩ | ⟨n, v, x1, x2, x3, x4, x5, x6, x7⟩
  · have tq0 : ∀ sz bs, Tq n0 T (120 * q) sz bs → Tq n0 T' (120 * q) sz bs := fun sz bs z => ⟨z.1, fun j hj => by rw [z.2 j hj, (x3 j (by omega)).1]⟩
    have tq1 : ∀ sz bs, Tq n1 T (120 * q + 60) sz bs → Tq n1 T' (120 * q + 60) sz bs := fun sz bs z => ⟨z.1, fun j hj => by rw [z.2 j hj, (x3 j (by omega)).2]⟩
    refine ⟨n0, n1, u, x1.trans e0, x2.trans e1, e2, ⟨r0, r1⟩, ?_⟩
    rcases c with ⟨c1, c2, sz, bs, c3, c4⟩ | ⟨c1, c2, c3, sz, bs, c4, c5⟩ | ⟨c1, c2, c3, c4, ⟨sz, bs, c5, c6⟩, sz2, bs2, c7, c8⟩
    · obtain ⟨rfl, rfl, rfl⟩ := same (fun z => z.1 c2)
      exact Or.inl ⟨c1, c2, sz, bs, ha _ _ c3, tq0 _ _ c4⟩
    · obtain ⟨rfl, rfl, rfl⟩ := same (fun z => z.1 c3)
      exact Or.inr (Or.inl ⟨c1, by omega, c3, sz, bs, ha _ _ c4, tq1 _ _ c5⟩)
    · by_cases hd : u.toInt ≤ w'
      · obtain ⟨rfl, rfl, rfl⟩ := swp ⟨c3, by rw [c4]; exact hd, by omega⟩
        exact Or.inr (Or.inl ⟨c1, hd, rfl, sz2, bs2, hb _ _ c7, tq1 _ _ c8⟩)
      · obtain ⟨rfl, rfl, rfl⟩ := same (fun z => hd (by rw [← c4]; exact z.2.1))
        exact Or.inr (Or.inr ⟨c1, by omega, c3, c4, ⟨sz, bs, ha _ _ c5, tq0 _ _ c6⟩, sz2, bs2, hb _ _ c7, tq1 _ _ c8⟩)
  · rw [e1] at x1
    cases x1
    rw [e2] at x3
    cases x3
    have z0 : (0 : Int32).toInt = 0 := by decide
    have tqf : ∀ sz bs, Tq n1 T (120 * q + 60) sz bs → Tq n1 T' (120 * q) sz bs := fun sz bs z => ⟨z.1, fun j hj => by rw [z.2 j hj, x7 j (by omega) hj]⟩
    refine ⟨n1, 0, u, x6, x5, e2, ⟨r1, by decide⟩, Or.inl ⟨z0, ?_⟩⟩
    rcases c with ⟨c1, -⟩ | ⟨c1, c2, c3, sz, bs, c4, c5⟩ | ⟨c1, c2, c3, c4, -, sz2, bs2, c7, c8⟩
    · omega
    · obtain ⟨rfl, rfl, rfl⟩ := same (fun z => z.1 c3)
      exact ⟨c3, sz, bs, ha _ _ c4, tqf _ _ c5⟩
    · obtain ⟨rfl, rfl, rfl⟩ := swp ⟨c3, by rw [c4]; exact x4, by omega⟩
      exact ⟨rfl, sz2, bs2, hb _ _ c7, tqf _ _ c8⟩
def fF12 (ci j : Nat) : Bool := (Nat.beq ci 10 && Nat.beq j 12) || (Nat.beq ci 11 && Nat.beq j 0)
def S12 : List Nat := [0, 1, 2, 3, 4, 5, 6, 7, 8, 9, 10, 11, 12, 13, 14, 15, 16, 17, 18, 19, 20, 21, 22, 23, 24, 25, 26, 27, 28, 29, 30, 31, 32, 33, 34, 35, 36, 37, 38, 39, 40, 41, 42, 43, 44, 45, 46, 47, 48, 49, 50, 51, 52, 53, 54, 55, 57, 58, 59, 60, 61, 62, 63, 65, 66, 67, 68, 69, 70, 71, 72, 73, 74, 75, 76, 77, 78, 79, 80, 81, 82, 83, 84, 85, 86, 87, 88, 89, 90, 91, 93, 94, 95, 96, 97, 98, 99, 100, 101, 102, 103, 104, 105, 106, 107, 108, 109, 110, 111, 112, 113, 114, 115, 116, 117, 118, 119, 120, 121, 122, 123, 124, 125, 126, 127, 128, 129, 130, 131, 132, 133, 134, 135, 136, 137, 138, 139, 140, 142, 143, 144, 145, 146, 147, 148, 149, 150, 151, 152, 153, 154, 155, 156, 157, 158, 159, 160, 161, 162, 163, 164, 165, 166, 167, 168]
set_option maxRecDepth 100000 in
theorem fS_12 : fSet fF12 S12 = true := by decide +kernel
theorem now_fk {h h2 : List mC} {nw : Int32} (a : nowOf h nw) (hf : fk fF12 h h2) : nowOf h2 nw := by
  obtain ⟨f0, e1, e2⟩ := a
  obtain ⟨f1, c1, c2⟩ := hf 0 10 f0 e1
  exact ⟨f1, c1, (c2 12 rfl).trans e2⟩
theorem wk_fk {h h2 : List mC} {x : Int32} (a : (h[47]?).bind wkC = some x) (hf : fk fF12 h h2) (hm : ∃ fs, h[47]? = some (.inr (11, fs))) : (h2[47]?).bind wkC = some x := by
  obtain ⟨fs, e⟩ := hm
  obtain ⟨f1, c1, c2⟩ := hf 47 11 fs e
  rw [e] at a
  have a : wkV fs[0]? = some x := a
  rw [c1]
  show wkV f1[0]? = some x
  rw [c2 0 rfl]
  exact a
theorem bothJ_add2 {J1 J2 : List mC → Prop} {md : List Nat} {y1 y2 : Nat} {as : List Value} {C C' : Int32 → Int32 → Prop} (a : bothJ J1 y1 y2 as C) (hb : bothI md y1 y2 as C') (hJ : ∀ (i : Nat) (g : Nat → Int) (ρ : List Nat) (h h1 h2 : mS) (v1 v2 : Int32), Inv i g ρ h → (∀ k r : Nat, ρ00[k]? = some r → r ∉ md → h2.1[k]? = h.1[k]?) → (md.elem 53 = true ∨ RR ρ h.1 h2.1) → mcall 720 y1 (.ref 0 :: as) h = some (some (.int v1), h1) → mcall 720 y2 (.ref 47 :: as) h1 = some (some (.int v2), h2) → J1 h.1 → J2 h.1 → J2 h2.1) : bothJ (fun h => J1 h ∧ J2 h) y1 y2 as C := by
  intro i g ρ h hi hI
  obtain ⟨v1, v2, h1, h2, g', ρ', fs, e1, e2, e3, e4, e5⟩ := a i g ρ h hi ⟨hI.1, hI.2.1⟩
  obtain ⟨w1, w2, k1, k2, -, -, -, d1, -, d3, -, -, d6, d7⟩ := hb i g ρ h hi hI.1
  rw [e1] at d1
  cases d1
  rw [e3] at d3
  cases d3
  obtain ⟨i1, i2, i3, i4, i5, i7, i9, i10, i11, i12, i13⟩ := id hI.1
  exact ⟨v1, v2, h1, h2, g', ρ', fs, e1, e2, e3, ⟨e4.1, e4.2, hJ i g ρ h h1 h2 v1 v2 hI.1 (fun k r q1 q2 => d6 k r (at_rho i13 (Nat.lt_of_lt_of_le (List.getElem?_eq_some_iff.mp q1).1 (Nat.le_of_ble_eq_true rfl)) q1) q2) d7 e1 e3 hI.2.1 hI.2.2⟩, e5⟩
theorem t7_00 : ∀ t ∈ T7, ρ00[t]? = some 10 ∧ ρ00[t + 1]? = some 11 := by decide
theorem tx_fr {h h2 : List mC} {md : List Nat} (hf : ∀ k r : Nat, ρ00[k]? = some r → r ∉ md → h2[k]? = h[k]?) (m10 : 10 ∉ md) (m11 : 11 ∉ md) {t : Nat} (ht : t ∈ T7) {sz : Int32} {bs : List Int32} (a : Tx h t sz bs) : Tx h2 t sz bs := by
  obtain ⟨ct, e1, e2⟩ := a
  exact ⟨ct, (hf t 10 (t7_00 t ht).1 m10).trans e1, (hf (t + 1) 11 (t7_00 t ht).2 m11).trans e2⟩
theorem lw_00 : ∀ q : Nat, q < 3 → ρ00[26 + 7 * q]? = some 24 := fun q hq => by
  match q, hq with
  | 0, _ => rfl
  | 1, _ => rfl
  | 2, _ => rfl
  | q + 3, hq => omega
/-- the calls that leave the by-laws, and the week -/
theorem jl_pres {md : List Nat} {y1 y2 : Nat} {as : List Value} (hm : [5, 8, 10, 11, 24, 53].all (fun r => !md.elem r) = true) (s1 : S12.elem y1 = true) (s2 : S12.elem y2 = true) : ∀ (i : Nat) (g : Nat → Int) (ρ : List Nat) (h h1 h2 : mS) (v1 v2 : Int32), Inv i g ρ h → (∀ k r : Nat, ρ00[k]? = some r → r ∉ md → h2.1[k]? = h.1[k]?) → (md.elem 53 = true ∨ RR ρ h.1 h2.1) → mcall 720 y1 (.ref 0 :: as) h = some (some (.int v1), h1) → mcall 720 y2 (.ref 47 :: as) h1 = some (some (.int v2), h2) → JA h.1 → JL h.1 → JL h2.1 := by
  intro i g ρ h h1 h2 v1 v2 hI hf hR c1 c2 _ hJ
  obtain ⟨i1, i2, i3, i4, i5, i7, i9, i10, i11, i12, i13⟩ := id hI
  obtain ⟨A, B, WT, FR, kd, T, N, W, nw, ⟨j1, j2, j3, j4, j5⟩, ⟨j6, j7⟩, j8⟩ := hJ
  have hfk := (mcall_fk fS_12 _ _ _ _ _ _ (elem_mem s1) c1).trans (mcall_fk fS_12 _ _ _ _ _ _ (elem_mem s2) c2)
  have hR : RR ρ h.1 h2.1 := by
    rcases hR with z | z
    · have := nmem hm (r := 53) (by decide)
      exact absurd (elem_mem z) this
    · exact z
  obtain ⟨T0, N0, W0, ⟨m1, m2, m3⟩, -, -, fs, x, a1, ⟨-, -, -, f0⟩, hx⟩ := ml_of i1 i13
  obtain ⟨fC, nwC, b1, ⟨-, -, -, b2⟩, hnw⟩ := cx_C i1 i13
  obtain ⟨f0', y1', y2'⟩ := id j5
  rw [b1] at y1'
  cases y1'
  rw [b2] at y2'
  cases y2'
  have wk0 : (h.1[47]?).bind wkC = some x := by
    rw [a1]
    show wkV fs[0]? = some x
    rw [f0]
    rfl
  obtain ⟨T', N', x', z1, z2, z3, z4, z5, z6⟩ := hR 68 69 70 47 T N W x (at_rho i13 (by decide) rfl) (at_rho i13 (by decide) rfl) (at_rho i13 (by decide) rfl) i3 j4.1 j4.2.1 j4.2.2 wk0
  rw [wk_fk wk0 hfk ⟨fs, a1⟩] at z4
  cases z4
  have hxn : x.toInt = nw.toInt := by omega
  rw [hxn] at z6
  have n10 := nmem hm (r := 10) (by decide)
  have n11 := nmem hm (r := 11) (by decide)
  have tx : ∀ t ∈ T7, ∀ (sz : Int32) (bs : List Int32), Tx h.1 t sz bs → Tx h2.1 t sz bs := fun t ht sz bs a => tx_fr hf n10 n11 ht a
  refine ⟨A, B, WT, FR, kd, T', N', W, nw, ⟨fun q hq => (hf _ 24 (lw_00 q hq) (nmem hm (by decide))).trans (j1 q hq), (hf 5 5 rfl (nmem hm (by decide))).trans j2, ?_, ⟨z1, z2, z3⟩, now_fk j5 hfk⟩, ⟨j6, fun t ht => ?_⟩, fun q hq => ?_⟩
  · obtain ⟨w, dp, dg, c, wt, mn, e⟩ := j3
    exact ⟨w, dp, dg, c, wt, mn, (hf 8 8 rfl (nmem hm (by decide))).trans e⟩
  · obtain ⟨sz, bs, a⟩ := j7 t ht
    exact ⟨sz, bs, tx t ht sz bs a⟩
  · exact JLq_step (Int.le_refl _) (j8 q hq) (z6 q hq) (tx _ (DS_mem j6 hq).1) (tx _ (DS_mem j6 hq).2) (A q) (B q) (WT q) (by rw [Int.sub_self, rcI_0])
def JB (h : List mC) : Prop := JA h ∧ JL h
theorem jb_of {md : List Nat} {y1 y2 : Nat} {as : List Value} {C C' : Int32 → Int32 → Prop} (a : bothJ JA y1 y2 as C) (hb : bothI md y1 y2 as C') (hm : [5, 8, 10, 11, 24, 53].all (fun r => !md.elem r) = true) (s1 : S12.elem y1 = true) (s2 : S12.elem y2 = true) : bothJ JB y1 y2 as C := bothJ_add2 a hb (jl_pres hm s1 s2)
theorem jb_house (x y : Int32) : bothJ JB 58 128 [.int x, .int y] (fun v1 v2 => v1 = v2) := jb_of (ja_house x y) (i_house x y) rfl rfl rfl
theorem jb_strip (x y z : Int32) : bothJ JB 59 129 [.int x, .int y, .int z] (fun v1 v2 => v1 = v2) := jb_of (ja_strip x y z) (i_strip x y z) rfl rfl rfl
theorem jb_rain (x y : Int32) : bothJ JB 60 130 [.int x, .int y] (fun v1 v2 => v1 = v2) := jb_of (ja_rain x y) (i_rain x y) rfl rfl rfl
theorem jb_beasts (x y : Int32) : bothJ JB 61 131 [.int x, .int y] (fun _ _ => True) := jb_of (ja_beasts x y) (i_beasts x y) rfl rfl rfl
theorem jb_sow (x : Int32) : bothJ JB 62 133 [.int x] (fun _ _ => True) := jb_of (ja_sow x) (i_sow x) rfl rfl rfl
theorem jb_reap (x : Int32) : bothJ JB 63 135 [.int x] (fun _ _ => True) := jb_of (ja_reap x) (i_reap x) rfl rfl rfl
theorem jb_land (x y : Int32) : bothJ JB 65 142 [.int x, .int y] (fun _ _ => True) := jb_of (ja_land x y) (i_land x y) rfl rfl rfl
theorem jb_hold (x y : Int32) : bothJ JB 66 146 [.int x, .int y] (fun _ _ => True) := jb_of (ja_hold x y) (i_hold x y) rfl rfl rfl
theorem jb_hunger (x : Int32) : bothJ JB 67 147 [.int x] (fun _ _ => True) := jb_of (ja_hunger x) (i_hunger x) rfl rfl rfl
theorem jb_feed (x y : Int32) : bothJ JB 68 123 [.int x, .int y] (fun v1 v2 => v1 = v2) := jb_of (ja_feed x y) (i_feed x y) rfl rfl rfl
theorem jb_clear : bothJ JB 70 125 [] (fun v1 v2 => v1 = v2) := jb_of (ja_clear) (i_clear) rfl rfl rfl
theorem jb_law (x y z : Int32) : bothJ JB 71 126 [.int x, .int y, .int z] (fun _ _ => True) := jb_of (ja_law x y z) (i_law x y z) rfl rfl rfl
theorem jb_stray (x y : Int32) : bothJ JB 73 148 [.int x, .int y] (fun _ _ => True) := jb_of (ja_stray x y) (i_stray x y) rfl rfl rfl
theorem jb_book (x y : Int32) : bothJ JB 74 149 [.int x, .int y] (fun _ _ => True) := jb_of (ja_book x y) (i_book x y) rfl rfl rfl
theorem jb_apart (x : Int32) : bothJ JB 75 150 [.int x] (fun v1 v2 => v1 = v2) := jb_of (ja_apart x) (i_apart x) rfl rfl rfl
theorem jb_court : bothJ JB 76 151 [] (fun _ _ => True) := jb_of (ja_court) (i_court) rfl rfl rfl
theorem jb_swap (x y : Int32) : bothJ JB 77 155 [.int x, .int y] (fun _ _ => True) := jb_of (ja_swap x y) (i_swap x y) rfl rfl rfl
theorem jb_better : bothJ JB 78 157 [] (fun _ _ => True) := jb_of (ja_better) (i_better) rfl rfl rfl
theorem jb_fewest (x : Int32) : bothJ JB 79 159 [.int x] (fun _ _ => True) := jb_of (ja_fewest x) (i_fewest x) rfl rfl rfl
theorem jb_count (x : Int32) : bothJ JB 80 160 [.int x] (fun _ _ => True) := jb_of (ja_count x) (i_count x) rfl rfl rfl
set_option maxHeartbeats 1000000 in
theorem jb_text (x y : Int32) : bothJ JB 72 127 [.int x, .int y] (fun v1 v2 => v1 = v2) := by
  intro i g ρ h hi hI
  obtain ⟨v1, v2, h1, h2, g', ρ', fs9, e1, e2, e3, e4, -⟩ := jb_of (ja_text x y) (i_text x y) rfl rfl rfl i g ρ h hi hI
  refine ⟨v1, v2, h1, h2, g', ρ', fs9, e1, e2, e3, e4, ?_⟩
  obtain ⟨i1, i2, i3, i4, i5, i7, i9, i10, i11, i12, i13⟩ := id hI.1
  obtain ⟨A, B, WT, FR, kd, T, N, W, nw, ⟨j1, j2, j3, j4, j5⟩, ⟨j6, j7⟩, j8⟩ := hI.2.2
  obtain ⟨hH1, hF1⟩ := ct_C (hallA (Nat.le_refl _) ci_C_text _ rfl) rfl rfl rfl i4 i1 i2 e1
  have hs : h1 = h := same_of i1 hH1 hF1
  subst hs
  obtain ⟨r1, hA, c1, w1, c2, c3⟩ := r_text (d := 718) (x := x) (i := y) i1 i13 j1 j2 (fun q hq => by
    obtain ⟨sz, bs, a⟩ := j7 _ (DS_mem j6 hq).1
    exact ⟨sz, bs, a, (DS_mem j6 hq).1⟩)
  rw [e1] at c1
  cases c1
  cases c2
  obtain ⟨r2, hB, d1, w2, d2, d3⟩ := r_Mtext (d := 718) (x := x) (i := y) i1 i13 j4
  rw [e3] at d1
  cases d1
  cases d2
  have hnw : nw.toInt = g 12 := by
    obtain ⟨fC, nwC, b1, ⟨-, -, -, b2⟩, hnw⟩ := cx_C i1 i13
    obtain ⟨f0', y1', y2'⟩ := id j5
    rw [b1] at y1'
    cases y1'
    rw [b2] at y2'
    cases y2'
    omega
  rcases c3 with ⟨p1, p2⟩ | ⟨Q, sz, bs, p1, p2, p3, p4⟩ <;> rcases d3 with ⟨q1, q2⟩ | ⟨Q', T1, N1, n, q1, q2, q3, q4, q5⟩
  · rw [p2, q2]
  · exact absurd ⟨by omega, by omega⟩ p1
  · exact absurd ⟨by omega, by omega⟩ q1
  · have hQ : Q' = Q := by omega
    subst hQ
    -- the text in force is the same
    have key : sz = n ∧ ∀ j : Nat, (j : Int) < n.toInt → bs[j]? = T1[120 * Q' + j]? := by
      obtain ⟨n0, n1, u, z0, z1, z2, ⟨rr0, rr1⟩, c⟩ := j8 Q' p1
      obtain ⟨n', u', y1, y2, y3⟩ := q3
      rw [z1] at y1
      cases y1
      rw [z2] at y2
      cases y2
      have uni : ∀ (s2 : Int32) (b2 : List Int32), Tx h1.1 (A Q') s2 b2 → s2 = sz ∧ b2 = bs := fun s2 b2 a => by
        obtain ⟨ct, a1, a2⟩ := a
        obtain ⟨ct', a3, a4⟩ := p3
        rw [a1] at a3
        rw [a2] at a4
        cases a3
        cases a4
        exact ⟨rfl, rfl⟩
      rcases y3 with ⟨nd, rfl, rfl⟩ | ⟨nd, cp, rfl⟩
      · rw [z0] at q4
        cases q4
        rcases c with ⟨c1, c2, s2, b2, c3, c4⟩ | ⟨c1, c2, -⟩ | ⟨c1, c2, c3, c4, ⟨s2, b2, c5, c6⟩, -⟩
        · obtain ⟨rfl, rfl⟩ := uni _ _ c3
          exact c4
        · exact absurd ⟨c1, by omega⟩ nd
        · obtain ⟨rfl, rfl⟩ := uni _ _ c5
          exact c6
      · rw [List.getElem?_set_ne (by omega), List.getElem?_set_self (by have := (List.getElem?_eq_some_iff.mp z0).1; omega)] at q4
        cases q4
        rcases c with ⟨c1, -⟩ | ⟨c1, c2, c3, s2, b2, c4, c5⟩ | ⟨c1, c2, -⟩
        · omega
        · obtain ⟨rfl, rfl⟩ := uni _ _ c4
          have c6 := c5.1
          exact ⟨c5.1, fun j hj => by rw [c5.2 j hj, cp.2.1 j (nlt_of hj)]⟩
        · omega
    obtain ⟨rfl, k2⟩ := key
    rcases p4 with ⟨a1, a2⟩ | ⟨a1, a2⟩ <;> rcases q5 with ⟨b1, b2⟩ | ⟨b1, b2⟩
    · rw [a2, b2]
    · exact absurd b1 a1
    · exact absurd a1 b1
    · have hc : (y.toNatClampNeg : Int) = y.toInt := by
        show ((y.toInt.toNat : Nat) : Int) = y.toInt
        omega
      have a2 : bs[y.toNatClampNeg]? = some v1 := a2
      have b2 : T1[120 * Q' + y.toNatClampNeg]? = some v2 := b2
      rw [k2 y.toNatClampNeg (by omega), b2] at a2
      cases a2
      rfl
set_option maxHeartbeats 2000000 in
theorem jb_week (x : Int32) : bothJ JB 64 141 [.int x] (fun v1 v2 => v1 = v2) := by
  refine bothJ_add2 (ja_week x) (i_week x) ?_
  intro i g ρ h h1 h2 v1 v2 hI hf hR e1 e3 _ hJ
  obtain ⟨i1, i2, i3, i4, i5, i7, i9, i10, i11, i12, i13⟩ := id hI
  obtain ⟨A, B, WT, FR, kd, T, N, W, nw, ⟨j1, j2, j3, j4, j5⟩, ⟨j6, j7⟩, j8⟩ := hJ
  have hR : RR ρ h.1 h2.1 := by
    rcases hR with z | z
    · exact absurd z (by decide)
    · exact z
  have g2r := i4 2 (0, 2000) rfl
  have g2r : 0 ≤ g 2 ∧ g 2 ≤ 2000 := g2r
  obtain ⟨r, hA, c1, u1, w, rfl, c2, c3, c4⟩ := t_week (d := 717) (hallE (by omega)) (x := x) i4 i1 i2
  rw [e1] at c1
  cases c1
  obtain ⟨r, hA, d1, d2⟩ := tL_week (d := 717) (hallE (by omega)) (x := x) i4 i1 i13 j1 j2
  rw [e1] at d1
  cases d1
  have hw : g 2 ≤ w ∧ w ≤ 2000 ∧ 0 ≤ w := by rcases c4 with ⟨q1, q2, q3, -, q4⟩ | ⟨-, -, q4⟩ <;> omega
  have hg1 : okG aBl (gup g 2 w) := okG_up i4 rfl hw.2.2 hw.2.1
  obtain ⟨r, hB, m1, u2, w2, rfl, m2, m3, m4⟩ := t_Mweek (d := 717) (hallA (by omega)) (x := x) hg1 c2 i3
  rw [e3] at m1
  cases m1
  rw [gup_ne (by decide), ← i11] at m4
  have hww : w2 = w := by
    rcases c4 with ⟨q1, q2, q3, q4, q5⟩ | ⟨q1, q4, q5⟩ <;> rcases m4 with ⟨s1, s2, s3, s4, s5⟩ | ⟨s1, s4, s5⟩
    · omega
    · exact absurd ⟨q1, q2, q3⟩ s1
    · exact absurd ⟨s1, s2, s3⟩ q1
    · omega
  subst hww
  -- now
  have hnw : nw.toInt = g 2 := by
    obtain ⟨fC, nwC, b1, ⟨-, -, -, b2⟩, hnw⟩ := cx_C i1 i13
    obtain ⟨f0', y1', y2'⟩ := id j5
    rw [b1] at y1'
    cases y1'
    rw [b2] at y2'
    cases y2'
    exact hnw
  obtain ⟨fC, nw', b1, ⟨-, -, -, b2⟩, hnw'⟩ := cx_C c2 i13
  rw [gup_self] at hnw'
  have now2 : nowOf h2.1 nw' := ⟨fC, (m3.1 0 0 i2 (by decide)).trans b1, b2⟩
  -- the reference's week
  obtain ⟨T0, N0, W0, -, -, -, fs, xw, a1, ⟨-, -, -, f0⟩, hx⟩ := ml_of i1 i13
  have wk0 : (h.1[47]?).bind wkC = some xw := by
    rw [a1]
    show wkV fs[0]? = some xw
    rw [f0]
    rfl
  obtain ⟨T', N', x', z1, z2, z3, z4, z5, z6⟩ := hR 68 69 70 47 T N W xw (at_rho i13 (by decide) rfl) (at_rho i13 (by decide) rfl) (at_rho i13 (by decide) rfl) i3 j4.1 j4.2.1 j4.2.2 wk0
  have hx' : x'.toInt = nw'.toInt := by
    obtain ⟨T9, N9, W9, -, -, -, fs2, xw2, a12, ⟨-, -, -, f02⟩, hx2⟩ := ml_of m2 i13
    rw [gup_self] at hx2
    rw [a12] at z4
    have z4 : wkV fs2[0]? = some x' := z4
    rw [f02] at z4
    have z4 : some xw2 = some x' := z4
    cases z4
    omega
  rw [hx'] at z6
  have tx : ∀ t ∈ T7, ∀ (sz : Int32) (bs : List Int32), Tx h.1 t sz bs → Tx h2.1 t sz bs := fun t ht sz bs a => tx_fr hf (by decide) (by decide) ht a
  -- the law cells of the class
  have lw2 : ∀ q : Nat, q < 3 → h2.1[26 + 7 * q]? = some (rcI (nw'.toInt - nw.toInt) nw.toInt (A q) (B q) (WT q) (FR q)) := by
    intro q hq
    have r24 : ρ[26 + 7 * q]? = some 24 := at_rho i13 (by omega) (lw_00 q hq)
    rw [m3.1 _ 24 r24 (by decide)]
    rcases d2 with ⟨y1, y2⟩ | ⟨y1, y2⟩
    · rw [y2 q hq, hnw, hnw']
      rcases c4 with ⟨q1, q2, q3, q4, q5⟩ | ⟨q1, q4, q5⟩
      · rw [q5, show g 2 + x.toInt - g 2 = x.toInt by omega]
      · exact absurd y1 q1
    · rcases c4 with ⟨q1, q2, q3, q4, q5⟩ | ⟨q1, q4, q5⟩
      · exact absurd ⟨q1, q2, q3⟩ y1
      · rw [y2, hnw, hnw', q5, Int.sub_self, rcI_0]
        exact j1 q hq
  have hs : ∀ q : Nat, ∃ a' b' wt', lwC a' b' wt' (FR q) = rcI (nw'.toInt - nw.toInt) nw.toInt (A q) (B q) (WT q) (FR q) ∧ ((a' = A q ∧ b' = B q) ∨ (a' = B q ∧ b' = A q)) := fun q => by
    unfold rcI
    split
    · exact ⟨B q, A q, 0, rfl, Or.inr ⟨rfl, rfl⟩⟩
    · exact ⟨A q, B q, WT q, rfl, Or.inl ⟨rfl, rfl⟩⟩
  have hch : ∃ (A2 B2 : Nat → Nat) (W2 : Nat → Int32), ∀ q : Nat, lwC (A2 q) (B2 q) (W2 q) (FR q) = rcI (nw'.toInt - nw.toInt) nw.toInt (A q) (B q) (WT q) (FR q) ∧ ((A2 q = A q ∧ B2 q = B q) ∨ (A2 q = B q ∧ B2 q = A q)) := ⟨fun q => Classical.choose (hs q), fun q => Classical.choose (Classical.choose_spec (hs q)), fun q => Classical.choose (Classical.choose_spec (Classical.choose_spec (hs q))), fun q => Classical.choose_spec (Classical.choose_spec (Classical.choose_spec (hs q)))⟩
  obtain ⟨A2, B2, W2, hAB⟩ := hch
  refine ⟨A2, B2, W2, FR, kd, T', N', W, nw', ⟨fun q hq => ?_, (hf 5 5 rfl (by decide)).trans j2, ?_, ⟨z1, z2, z3⟩, now2⟩, ⟨?_, fun t ht => ?_⟩, fun q hq => ?_⟩
  · rw [lw2 q hq]
    exact congrArg some (hAB q).1.symm
  · obtain ⟨w, dp, dg, c, wt, mn, e⟩ := j3
    exact ⟨w, dp, dg, c, wt, mn, (hf 8 8 rfl (by decide)).trans e⟩
  · refine ⟨j6.1, fun q hq => ?_⟩
    obtain ⟨⟨s1, s2⟩, ⟨s3, s4, s5⟩, s6⟩ := j6.2 q hq
    have hp : ∀ p : Nat, p < 3 → p ≠ q → A2 q ≠ A2 p ∧ A2 q ≠ B2 p ∧ B2 q ≠ A2 p ∧ B2 q ≠ B2 p := by
      intro p hp hpq
      obtain ⟨t1, t2, t3, t4⟩ := s6 p hp hpq
      rcases (hAB q).2 with ⟨v1, v2⟩ | ⟨v1, v2⟩ <;> rcases (hAB p).2 with ⟨v3, v4⟩ | ⟨v3, v4⟩ <;> rw [v1, v2, v3, v4]
      · exact ⟨t1, t2, t3, t4⟩
      · exact ⟨t2, t1, t4, t3⟩
      · exact ⟨t3, t4, t1, t2⟩
      · exact ⟨t4, t3, t2, t1⟩
    rcases (hAB q).2 with ⟨v1, v2⟩ | ⟨v1, v2⟩
    · rw [v1, v2] at hp ⊢
      exact ⟨⟨s1, s2⟩, ⟨s3, s4, s5⟩, hp⟩
    · rw [v1, v2] at hp ⊢
      exact ⟨⟨s2, s1⟩, ⟨fun e => s3 e.symm, s5, s4⟩, hp⟩
  · obtain ⟨sz, bs, a⟩ := j7 t ht
    exact ⟨sz, bs, tx t ht sz bs a⟩
  · exact JLq_step (by omega) (j8 q hq) (z6 q hq) (tx _ (DS_mem j6 hq).1) (tx _ (DS_mem j6 hq).2) (A2 q) (B2 q) (W2 q) (hAB q).1
