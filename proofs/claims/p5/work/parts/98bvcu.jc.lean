/-! steps and lengths through all calls -/
def JN (h : List mC) : Prop := ∃ N : List Int32, h[69]? = some (cAr N) ∧ ∀ q : Nat, q < 3 → ∃ n : Int32, N[2 * q]? = some n ∧ 0 < n.toInt
def J5 (h : List mC) : Prop := JS h ∧ JN h
theorem js_fr {h h2 : List mC} {md : List Nat} (hf : ∀ k r : Nat, ρ00[k]? = some r → r ∉ md → h2[k]? = h[k]?) (hm : [8, 10, 11, 12].all (fun r => !md.elem r) = true) (hJ : JS h) : JS h2 := by
  obtain ⟨kd, k1, k2, k3⟩ := hJ
  refine ⟨kd, k1, ?_, fun t ht hne => ?_⟩
  · obtain ⟨w, dp, dg, c, wt, mn, e⟩ := k2
    exact ⟨w, dp, dg, c, wt, mn, (hf 8 8 rfl (nmem hm (by decide))).trans e⟩
  · have r0 : ∀ t ∈ T7, ρ00[t]? = some 10 ∧ ρ00[t + 1]? = some 11 ∧ ρ00[t + 2]? = some 12 := by decide
    obtain ⟨a1, a2, a3⟩ := r0 t ht
    exact TS_fr (hf _ _ a1 (nmem hm (by decide))) (hf _ _ a2 (nmem hm (by decide))) (hf _ _ a3 (nmem hm (by decide))) (k3 t ht hne)
theorem j5_pres {md : List Nat} {y1 y2 : Nat} {as : List Value} (hm : [8, 10, 11, 12, 53].all (fun r => !md.elem r) = true) : ∀ (i : Nat) (g : Nat → Int) (ρ : List Nat) (h h1 h2 : mS) (v1 v2 : Int32), Inv i g ρ h → (∀ k r : Nat, ρ00[k]? = some r → r ∉ md → h2.1[k]? = h.1[k]?) → (md.elem 53 = true ∨ RR ρ h.1 h2.1) → mcall 720 y1 (.ref 0 :: as) h = some (some (.int v1), h1) → mcall 720 y2 (.ref 47 :: as) h1 = some (some (.int v2), h2) → JB h.1 → J5 h.1 → J5 h2.1 := by
  intro i g ρ h h1 h2 v1 v2 hI hf hR c1 c2 _ hJ
  obtain ⟨i1, i2, i3, i4, i5, i7, i9, i10, i11, i12, i13⟩ := id hI
  have hR : RR ρ h.1 h2.1 := by
    rcases hR with z | z
    · have := nmem hm (r := 53) (by decide)
      exact absurd (elem_mem z) this
    · exact z
  refine ⟨js_fr hf ?_ hJ.1, ?_⟩
  · rw [List.all_eq_true] at hm ⊢
    exact fun r hr => hm r (show r ∈ [8, 10, 11, 12] ++ [53] from List.mem_append_left _ hr)
  · obtain ⟨N, n1, n2⟩ := hJ.2
    obtain ⟨T0, N0, W0, ⟨m1, m2, m3⟩, -, -, fs, x, a1, ⟨-, -, -, f0⟩, hx⟩ := ml_of i1 i13
    rw [n1] at m2
    cases m2
    have wk0 : (h.1[47]?).bind wkC = some x := by
      rw [a1]
      show wkV fs[0]? = some x
      rw [f0]
      rfl
    obtain ⟨T', N', x', z1, z2, z3, z4, z5, z6⟩ := hR 68 69 70 47 T0 N W0 x (at_rho i13 (by decide) rfl) (at_rho i13 (by decide) rfl) (at_rho i13 (by decide) rfl) i3 m1 n1 m3 wk0
    refine ⟨N', z2, fun q hq => ?_⟩
    rcases z6 q hq with ⟨a, -⟩ | ⟨n, u, b1, b2, b3, b4, b5, b6, -⟩
    · rw [a]
      exact n2 q hq
    · exact ⟨n, b6, b2⟩
def JC (h : List mC) : Prop := JB h ∧ J5 h
theorem jc_of {md : List Nat} {y1 y2 : Nat} {as : List Value} {C C' : Int32 → Int32 → Prop} (a : bothJ JB y1 y2 as C) (hb : bothI md y1 y2 as C') (hm : [8, 10, 11, 12, 53].all (fun r => !md.elem r) = true) : bothJ JC y1 y2 as C := bothJ_add2 a hb (j5_pres hm)
theorem jc_house (x y : Int32) : bothJ JC 58 128 [.int x, .int y] (fun v1 v2 => v1 = v2) := jc_of (jb_house x y) (i_house x y) rfl
theorem jc_strip (x y z : Int32) : bothJ JC 59 129 [.int x, .int y, .int z] (fun v1 v2 => v1 = v2) := jc_of (jb_strip x y z) (i_strip x y z) rfl
theorem jc_rain (x y : Int32) : bothJ JC 60 130 [.int x, .int y] (fun v1 v2 => v1 = v2) := jc_of (jb_rain x y) (i_rain x y) rfl
theorem jc_beasts (x y : Int32) : bothJ JC 61 131 [.int x, .int y] (fun _ _ => True) := jc_of (jb_beasts x y) (i_beasts x y) rfl
theorem jc_sow (x : Int32) : bothJ JC 62 133 [.int x] (fun _ _ => True) := jc_of (jb_sow x) (i_sow x) rfl
theorem jc_reap (x : Int32) : bothJ JC 63 135 [.int x] (fun _ _ => True) := jc_of (jb_reap x) (i_reap x) rfl
theorem jc_land (x y : Int32) : bothJ JC 65 142 [.int x, .int y] (fun _ _ => True) := jc_of (jb_land x y) (i_land x y) rfl
theorem jc_hold (x y : Int32) : bothJ JC 66 146 [.int x, .int y] (fun _ _ => True) := jc_of (jb_hold x y) (i_hold x y) rfl
theorem jc_hunger (x : Int32) : bothJ JC 67 147 [.int x] (fun _ _ => True) := jc_of (jb_hunger x) (i_hunger x) rfl
theorem jc_feed (x y : Int32) : bothJ JC 68 123 [.int x, .int y] (fun v1 v2 => v1 = v2) := jc_of (jb_feed x y) (i_feed x y) rfl
theorem jc_clear  : bothJ JC 70 125 [] (fun v1 v2 => v1 = v2) := jc_of (jb_clear ) (i_clear ) rfl
theorem jc_law (x y z : Int32) : bothJ JC 71 126 [.int x, .int y, .int z] (fun _ _ => True) := jc_of (jb_law x y z) (i_law x y z) rfl
theorem jc_stray (x y : Int32) : bothJ JC 73 148 [.int x, .int y] (fun _ _ => True) := jc_of (jb_stray x y) (i_stray x y) rfl
theorem jc_book (x y : Int32) : bothJ JC 74 149 [.int x, .int y] (fun _ _ => True) := jc_of (jb_book x y) (i_book x y) rfl
theorem jc_apart (x : Int32) : bothJ JC 75 150 [.int x] (fun v1 v2 => v1 = v2) := jc_of (jb_apart x) (i_apart x) rfl
theorem jc_court  : bothJ JC 76 151 [] (fun _ _ => True) := jc_of (jb_court ) (i_court ) rfl
theorem jc_swap (x y : Int32) : bothJ JC 77 155 [.int x, .int y] (fun _ _ => True) := jc_of (jb_swap x y) (i_swap x y) rfl
theorem jc_better  : bothJ JC 78 157 [] (fun _ _ => True) := jc_of (jb_better ) (i_better ) rfl
theorem jc_fewest (x : Int32) : bothJ JC 79 159 [.int x] (fun _ _ => True) := jc_of (jb_fewest x) (i_fewest x) rfl
theorem jc_count (x : Int32) : bothJ JC 80 160 [.int x] (fun _ _ => True) := jc_of (jb_count x) (i_count x) rfl
theorem jc_text (x y : Int32) : bothJ JC 72 127 [.int x, .int y] (fun v1 v2 => v1 = v2) := jc_of (jb_text x y) (i_text x y) rfl
theorem jc_week (x : Int32) : bothJ JC 64 141 [.int x] (fun v1 v2 => v1 = v2) := jc_of (jb_week x) (i_week x) rfl
set_option maxHeartbeats 1000000 in
theorem jc_make (x y : Int32) : bothJ JC 69 124 [.int x, .int y] (fun v1 v2 => v1 = v2) := by
  refine bothJ_add2 (jb_make x y) (i_make x y) ?_
  intro i g ρ h h1 h2 v1 v2 hI hf _ e1 e3 hJB hJ
  obtain ⟨i1, i2, i3, i4, i5, i7, i9, i10, i11, i12, i13⟩ := id hI
  obtain ⟨⟨jr, n, bs, cs, fs, a1, a2, a3, a4, a5, a6, a7, a8⟩, A, B, WT, FR, kd, T, N, W, nw, ⟨j1, j2, j3, j4, j5⟩, ⟨j6, j7⟩, j8⟩ := hJB
  obtain ⟨tC, tF⟩ := tp_take a6 a7 a8
  obtain ⟨hH1, hF1⟩ := ct_C (hallA (Nat.le_refl _) ci_C_make _ rfl) rfl rfl rfl i4 i1 i2 e1
  obtain ⟨hH2, hF2⟩ := ct_M (hallA (Nat.le_refl _) ci_M_make _ rfl) rfl rfl rfl i4 hH1 i3 e3
  have n47 : h1.1[47]? = some (.inr (11, fs)) := (hF1.1 47 30 i3 (by decide)).trans a4
  have n67 : h1.1[67]? = some (.inl (0, .inl cs)) := (hF1.1 67 50 (at_rho i13 (by decide) rfl) (by decide)).trans a3
  have ml1 : mlH h1.1 T N W := ⟨(hF1.1 68 51 (at_rho i13 (by decide) rfl) (by decide)).trans j4.1, (hF1.1 69 52 (at_rho i13 (by decide) rfl) (by decide)).trans j4.2.1, (hF1.1 70 53 (at_rho i13 (by decide) rfl) (by decide)).trans j4.2.2⟩
  obtain ⟨r1, hA, c1, c2⟩ := js_make (d := 709) (hallE (by omega)) i4 i1 i13 (x := x) (y := y) a6 a1 a2 j1 j2 j6 j3 j7 hJ.1
  rw [e1] at c1
  cases c1
  refine ⟨js_fr (fun k r q1 q2 => hF2.1 k r (at_rho i13 (Nat.lt_of_lt_of_le (List.getElem?_eq_some_iff.mp q1).1 (Nat.le_of_ble_eq_true rfl)) q1) q2) rfl c2, ?_⟩
  obtain ⟨N9, n1, n2⟩ := hJ.2
  rw [j4.2.1] at n1
  cases n1
  obtain ⟨r2, hB, d1, d2⟩ := q_Mmake (d := 716) (hallE (by omega)) i4 hH1 i13 (x := x) (y := y) tC n47 a5 n67 ml1
  rw [e3] at d1
  cases d1
  rcases d2 with ⟨-, d3⟩ | ⟨-, Q, T1, N1, T2, hQ, hx, hcf, hct, d3⟩
  · exact ⟨N, d3.2.1, n2⟩
  · refine ⟨_, d3.2.1, fun q hq => ?_⟩
    obtain ⟨m, u, y1, y2, y3⟩ := hcf
    rw [List.getElem?_set_ne (by omega)]
    rcases y3 with ⟨-, rfl, rfl⟩ | ⟨hm, -, rfl⟩
    · exact n2 q hq
    · rw [List.getElem?_set_ne (by omega)]
      by_cases hqQ : q = Q
      · subst hqQ
        obtain ⟨n9, z1, z2⟩ := n2 q hq
        exact ⟨m, List.getElem?_set_self (List.getElem?_eq_some_iff.mp z1).1, hm.1⟩
      · rw [List.getElem?_set_ne (by omega)]
        exact n2 q hq
