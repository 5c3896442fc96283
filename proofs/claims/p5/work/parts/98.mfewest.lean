/-- what fewest owes -/
def FP (g : Nat → Int) (ρ : List Nat) (h : mS) : Option Value → mS → Prop := fun r h' => ∃ v : Int32, r = some (.int v) ∧ okH rI0 g ρ h'.1 ∧ okFr ρ [30, 41, 59, 60] h h'
set_option maxRecDepth 10000 in
set_option maxHeartbeats 2000000 in
theorem t_Mfewest {d : Nat} (hall : CTall ci_early (d + 1)) {g : Nat → Int} {ρ : List Nat} {m : Nat} {x : Int32} {h : mS} (hg : okG aBl g) (hH : okH rI0 g ρ h.1) (hm : ρ[m]? = some 30) : mR (d + 2) 159 [.ref m, .int x] h (FP g ρ h) := by
  have hgs := hg 11 (0, 60) rfl
  have hgs : 0 ≤ g 11 ∧ g 11 ≤ 60 := hgs
  have e0 : (0 : Int32).toInt = 0 := by decide
  have e1 : (1 : Int32).toInt = 1 := by decide
  have e8 : (8 : Int32).toInt = 8 := by decide
  have x1 : -2147483648 ≤ x.toInt := Int32.le_toInt x
  have x2 : x.toInt ≤ 2147483647 := by have := Int32.toInt_lt x; omega
  -- the array of the fields, which nothing changes
  obtain ⟨fsA, cA1, cA2, cA3⟩ := fld hH hm rM_eq
  obtain ⟨vA, cA4, fa, rfl, hfa⟩ := cA3 10 (3, 39, 0) rfl
  have hfa : ρ[fa]? = some 39 := hfa
  obtain ⟨cc, cA5, xs, rfl, hxl, -⟩ := hH.at hfa (R := .inr (.inl (0, 60, -2147483648, 2147483647))) rfl
  have fields : ∀ h2 : mS, okH rI0 g ρ h2.1 → okFr ρ [30, 41, 59, 60] h h2 → (∃ fs, h2.1[m]? = some (.inr (11, fs)) ∧ fs[10]? = some (.ref fa)) → ∃ (fs : List Value) (s o : Int32) (ow : Nat) (os : List Int32), h2.1[m]? = some (.inr (11, fs)) ∧ fs[10]? = some (.ref fa) ∧ h2.1[fa]? = some (.inl (0, .inl xs)) ∧ fs[21]? = some (.int s) ∧ s.toInt = g 11 ∧ fs[42]? = some (.int o) ∧ fs[40]? = some (.ref ow) ∧ ρ[ow]? = some 59 ∧ h2.1[ow]? = some (.inl (0, .inl os)) ∧ os.length = 8 ∧ (∀ z ∈ os, 0 ≤ z.toInt ∧ z.toInt ≤ 59) := by
    intro h2 hH2 hF2 hfs
    obtain ⟨fs, q1, q2⟩ := hfs
    obtain ⟨fs', c1, -, c3⟩ := fld hH2 hm rM_eq
    rw [q1] at c1
    cases c1
    obtain ⟨v1, d1, s, rfl, d2⟩ := c3 21 (1, 11, 0) rfl
    have d2 : s.toInt = g 11 + 0 := d2
    obtain ⟨v2, d3, o, rfl, -⟩ := c3 42 (0, 0, 8) rfl
    obtain ⟨v3, d4, ow, rfl, d5⟩ := c3 40 (3, 59, 0) rfl
    have d5 : ρ[ow]? = some 59 := d5
    obtain ⟨cw, w1, os, rfl, w2, w3⟩ := hH2.at d5 (R := .inr (.inl (0, 8, 0, 59))) rfl
    exact ⟨fs, s, o, ow, os, q1, q2, by rw [hF2.1 fa 39 hfa (by decide)]; exact cA5, d1, by omega, d3, d4, d5, w1, w2, w3⟩
  have at60 : ∀ s : Int32, 0 ≤ s.toInt → s.toInt < g 11 → (¬ s < 0) ∧ (s.toNatClampNeg : Int) = s.toInt ∧ s.toNatClampNeg < xs.length := by
    intro s q1 q2
    have sc : (s.toNatClampNeg : Int) = s.toInt := by
      show ((s.toInt.toNat : Nat) : Int) = s.toInt
      omega
    exact ⟨fun q => by have := Int32.lt_iff_toInt_lt.mp q; omega, sc, by rw [hxl]; omega⟩
  -- the end
  have e172 : ∀ (h2 : mS) (lv : mL), okH rI0 g ρ h2.1 → okFr ρ [30, 41, 59, 60] h h2 → mget lv 0 = some (.ref m) → mget lv 1 = some (.int x) → (∀ q ∈ lv, mone q.2 = true) → mE (mcall (d + 1)) none 5 (mgd 200 mtX11_fewest) 40 (172, lv, [], h2) (fun r h' => mretok (some .int) r = true ∧ FP g ρ h r h') := by
    intro h2 lv hH2 hF2 g0 g1 g3
    obtain ⟨fs, c1, -, -⟩ := fld hH2 hm rM_eq
    refine mE_aldn 173 rfl g0 rfl rfl ?_
    refine mE_ico 174 (-1) rfl rfl rfl ?_
    refine mE_ildn 175 rfl g1 rfl rfl ?_
    refine mE_cv [.int (-1), .int x] [] rfl rfl rfl rfl c1 rfl ?_
    obtain ⟨r, h3, k1, k2, k3, v, rfl, ⟨p, rfl, -⟩, -⟩ := hall ci_M_pieces _ rfl g ρ [.ref m, .int (-1), .int x] h2 hg hH2 ⟨⟨m, rfl, hm⟩, a32_ok _, a32_ok _, trivial⟩ (fun q hq => by cases hq)
    have hs := same_of hH2 k2 k3
    subst hs
    refine ⟨_, _, k1, ?_⟩
    refine p_ist rfl rfl g3 (fun lv3 r1 r2 r3 => ?_)
    have s0 : mget lv3 0 = some (.ref m) := by rw [r2 0 (by decide)]; exact g0
    have s1 : mget lv3 1 = some (.int x) := by rw [r2 1 (by decide)]; exact g1
    refine mE_aldn 180 rfl s0 rfl rfl ?_
    refine mE_ico 181 0 rfl rfl rfl ?_
    refine mE_ildn 182 rfl s1 rfl rfl ?_
    refine mE_cv [.int 0, .int x] [] rfl rfl rfl rfl c1 rfl ?_
    obtain ⟨r, h4, w1, b, rfl, w2, w3⟩ := r_fewestFrom hall (x := x) hg hH2 hm
    refine ⟨_, _, w1, ?_⟩
    refine mE_ist 187 _ rfl rfl rfl rfl ?_
    have t3 : mget (mput lv3 4 (.int b)) 3 = some (.int p) := (mget_put lv3 4 3 _ (by decide) r3).trans r1
    have t4 : mget (mput lv3 4 (.int b)) 4 = some (.int b) := mget_put_self _ _ _
    have fin : ∀ (v : Int32) (n : Nat), mE (mcall (d + 1)) none 5 (mgd 200 mtX11_fewest) (n + 1) (199, mput lv3 4 (.int b), [.int v], h4) (fun r h' => mretok (some .int) r = true ∧ FP g ρ h r h') := fun v n => mE_iret rfl ⟨rfl, v, rfl, w2, hF2.trans (w3.mono rfl)⟩
    refine mE_ild 189 rfl t4 rfl rfl ?_
    refine mE_ildn 190 rfl t3 rfl rfl ?_
    refine mE_ic_ge rfl (fun _ => ?_) (fun _ => ?_)
    · refine mE_ildn 199 rfl t3 rfl rfl ?_
      exact fin p _
    · refine mE_ild 195 rfl t4 rfl rfl ?_
      exact mE_goto 199 rfl rfl (fin b _)
  -- the loop that fills own
  have loop3 : cntF xs x (g 11).toNat ≤ 8 → ∀ (k : Nat) (h2 : mS) (lv : mL) (s : Int32), okH rI0 g ρ h2.1 → okFr ρ [30, 41, 59, 60] h h2 → (∃ fs, h2.1[m]? = some (.inr (11, fs)) ∧ fs[10]? = some (.ref fa) ∧ ∃ o : Int32, fs[42]? = some (.int o) ∧ o.toInt = cntF xs x s.toInt.toNat) → 0 ≤ s.toInt → s.toInt + k = g 11 → mget lv 0 = some (.ref m) → mget lv 1 = some (.int x) → mget lv 3 = some (.int s) → (∀ q ∈ lv, mone q.2 = true) → mE (mcall (d + 1)) none 5 (mgd 200 mtX11_fewest) (600 * k + 100) (86, lv, [], h2) (fun r h' => mretok (some .int) r = true ∧ FP g ρ h r h') := by
    intro hc8 k
    induction k with
    | zero =>
      intro h2 lv s hH2 hF2 hfs s0 sk g0 g1 g3 g4
      obtain ⟨fs0, q1, q2, o, q3, q4⟩ := hfs
      obtain ⟨fs, s', o', ow, os, p1, p2, p3, p4, p5, p6, p7, p8, p9, p10, p11⟩ := fields h2 hH2 hF2 ⟨fs0, q1, q2⟩
      refine mE_ildn 87 rfl g3 rfl rfl ?_
      refine mE_aldn 88 rfl g0 rfl rfl ?_
      refine mE_gf 91 rfl rfl p1 p4 rfl ?_
      refine mE_ic_ge_t 172 rfl (Int32.le_iff_toInt_le.mpr (by omega)) rfl ?_
      exact mE_le (e172 h2 lv hH2 hF2 g0 g1 g4) (by omega)
    | succ k ih =>
      intro h2 lv s hH2 hF2 hfs s0 sk g0 g1 g3 g4
      obtain ⟨fs0, q1, q2, o, q3, q4⟩ := hfs
      obtain ⟨fs, s', o', ow, os, p1, p2, p3, p4, p5, p6, p7, p8, p9, p10, p11⟩ := fields h2 hH2 hF2 ⟨fs0, q1, q2⟩
      have hff : fs0 = fs := by rw [q1] at p1; cases p1; rfl
      subst hff
      obtain ⟨t1, t2, t3⟩ := at60 s s0 (by omega)
      have si1 : (s + 1).toInt = s.toInt + 1 := by rw [add_id (by omega) (by omega), e1]
      have hxs : xs[s.toNatClampNeg]? = some (xs[s.toNatClampNeg]'t3) := List.getElem?_eq_getElem t3
      have hsn : s.toNatClampNeg = s.toInt.toNat := rfl
      have hcs : cntF xs x (s + 1).toInt.toNat = cntF xs x s.toInt.toNat + (if xs[s.toInt.toNat]? = some x then 1 else 0) := by
        rw [show (s + 1).toInt.toNat = s.toInt.toNat + 1 by omega]
        rfl
      have hle : cntF xs x (s + 1).toInt.toNat ≤ 8 := Nat.le_trans (cntF_mono (by omega)) hc8
      have nxt : ∀ (h4 : mS) (lv4 : mL) (n : Nat), okH rI0 g ρ h4.1 → okFr ρ [30, 41, 59, 60] h h4 → (∃ fs, h4.1[m]? = some (.inr (11, fs)) ∧ fs[10]? = some (.ref fa) ∧ ∃ o : Int32, fs[42]? = some (.int o) ∧ o.toInt = cntF xs x (s + 1).toInt.toNat) → mget lv4 0 = some (.ref m) → mget lv4 1 = some (.int x) → mget lv4 3 = some (.int s) → (∀ q ∈ lv4, mone q.2 = true) → mE (mcall (d + 1)) none 5 (mgd 200 mtX11_fewest) (600 * k + 100 + 2) (166, lv4, [], h4) (fun r h' => mretok (some .int) r = true ∧ FP g ρ h r h') := by
        intro h4 lv4 n hH4 hF4 hfs4 u0 u1 u3 u4
        refine mE_iinc 169 (s + 1) _ rfl u3 rfl rfl rfl rfl ?_
        refine mE_goto 86 rfl rfl ?_
        exact ih h4 _ (s + 1) hH4 hF4 hfs4 (by omega) (by omega) (by rw [mget_put lv4 3 0 _ (by decide) u4]; exact u0) (by rw [mget_put lv4 3 1 _ (by decide) u4]; exact u1) (mget_put_self _ _ _) (mput_mone u4 rfl)
      refine mE_ildn 87 rfl g3 rfl rfl ?_
      refine mE_aldn 88 rfl g0 rfl rfl ?_
      refine mE_gf 91 rfl rfl p1 p4 rfl ?_
      refine mE_ic_ge_f 94 rfl (fun q => by have := Int32.le_iff_toInt_le.mp q; omega) rfl ?_
      refine mE_aldn 95 rfl g0 rfl rfl ?_
      refine mE_gf 98 rfl rfl p1 p2 rfl ?_
      refine mE_ildn 99 rfl g3 rfl rfl ?_
      refine mE_ila 100 rfl p3 t1 hxs rfl ?_
      refine mE_ildn 101 rfl g1 rfl rfl ?_
      refine mE_ic_ne rfl (fun hne => ?_) (fun heq => ?_)
      · refine mE_le (nxt h2 lv 0 hH2 hF2 ⟨fs0, q1, q2, o, q3, ?_⟩ g0 g1 g3 g4) (by omega)
        rw [hcs, if_neg (fun q => by rw [← hsn, hxs] at q; exact hne (Option.some.inj q)), q4]
        rfl
      · have heq := Classical.not_not.mp heq
        have hc1 : cntF xs x (s + 1).toInt.toNat = cntF xs x s.toInt.toNat + 1 := by rw [hcs, if_pos (by rw [← hsn, hxs, heq])]
        have o7 : o.toInt ≤ 7 := by omega
        have o0 : 0 ≤ o.toInt := by omega
        have oc : (o.toNatClampNeg : Int) = o.toInt := by
          show ((o.toInt.toNat : Nat) : Int) = o.toInt
          omega
        have o1 : (o + 1).toInt = o.toInt + 1 := by rw [add_id (by omega) (by omega), e1]
        have hl42 : 42 < fs0.length := (List.getElem?_eq_some_iff.mp q3).1
        have hom : ow ≠ m := fun e => by subst e; rw [hm] at p8; cases p8
        have hlm : m < h2.1.length := (List.getElem?_eq_some_iff.mp q1).1
        refine mE_aldn 105 rfl g0 rfl rfl ?_
        refine mE_gf 108 rfl rfl p1 p7 rfl ?_
        refine mE_aldn 109 rfl g0 rfl rfl ?_
        refine mE_gf 112 rfl rfl p1 q3 rfl ?_
        refine mE_ildn 113 rfl g3 rfl rfl ?_
        refine mE_isa 114 o.toNatClampNeg rfl p9 rfl (by
          rintro (q | q)
          · have := Int32.lt_iff_toInt_lt.mp q; omega
          · omega) rfl ?_
        have hH3 : okH rI0 g ρ (h2.1.set ow (.inl (0, .inl (os.set o.toNatClampNeg s)))) := hH2.set p8 (R := .inr (.inl (0, 8, 0, 59))) rfl ⟨_, rfl, by rw [List.length_set]; exact p10, fun z hz => by
          rcases List.mem_or_eq_of_mem_set hz with hz | hz
          · exact p11 z hz
          · rw [hz]; exact ⟨s0, by omega⟩⟩
        have c3m : (h2.1.set ow (.inl (0, .inl (os.set o.toNatClampNeg s))))[m]? = some (.inr (11, fs0)) := by rw [List.getElem?_set_ne hom]; exact q1
        refine mE_aldn 115 rfl g0 rfl rfl ?_
        refine mE_dup 116 rfl rfl rfl ?_
        refine mE_gf 119 rfl rfl c3m q3 rfl ?_
        refine mE_ico 120 1 rfl rfl rfl ?_
        refine mE_iadd 121 (o + 1) rfl rfl rfl ?_
        refine mE_pf 124 rfl c3m (by show (true && Nat.blt 42 fs0.length) = true; rw [Nat.blt_eq.mpr hl42]; rfl) rfl ?_
        have hH4 : okH rI0 g ρ ((h2.1.set ow (.inl (0, .inl (os.set o.toNatClampNeg s)))).set m (.inr (11, fs0.set 42 (.int (o + 1))))) := hH3.put hm rM_eq (j := 42) (t := (0, 0, 8)) rfl c3m ⟨o + 1, rfl, by show 0 ≤ (o + 1).toInt; omega, by show (o + 1).toInt ≤ 8; omega⟩
        have hF4 : okFr ρ [30, 41, 59, 60] h ((h2.1.set ow (.inl (0, .inl (os.set o.toNatClampNeg s)))).set m (.inr (11, fs0.set 42 (.int (o + 1)))), h2.2) := (hF2.set (c := .inl (0, .inl (os.set o.toNatClampNeg s))) p8 (by decide)).set hm (by decide)
        -- ownMany, by types; what is told of the locals are two ghosts
        have hHg : okH rI0 (gup (gup g 9 x.toInt) 4 s.toInt) ρ ((h2.1.set ow (.inl (0, .inl (os.set o.toNatClampNeg s)))).set m (.inr (11, fs0.set 42 (.int (o + 1))))) := okH_4 (okH_9 hH4)
        have hgg : okG aBl4 (gup (gup g 9 x.toInt) 4 s.toInt) := okG4 (okG_up hg rfl x1 x2) s0 (by omega)
        have hex : ∀ (pc : Nat) (A : aAn) (mm : Int), anaf sF2 pc = some A → pc ∈ [166] → Gs rI0 (gup (gup g 9 x.toInt) 4 s.toInt) ρ [60] ((h2.1.set ow (.inl (0, .inl (os.set o.toNatClampNeg s)))).set m (.inr (11, fs0.set 42 (.int (o + 1)))), h2.2) (d + 1) 5 (mgd 200 mtX11_fewest) (fun r h' => mretok (some .int) r = true ∧ FP g ρ h r h') (600 * k + 100) mm (pc, A) := by
          intro pc A mm hA hpc
          rcases List.mem_cons.mp hpc with rfl | hpc
          rotate_left
          · cases hpc
          rw [sF2_e166] at hA
          cases hA
          intro lv5 st5 h5 hS _
          have hst := hS.2.2.1.nil
          subst hst
          obtain ⟨v, a1, m', rfl, a3⟩ := hS.2.1.get (x := 0) (t := (3, 30, 0)) rfl
          obtain ⟨v, b1, xx, rfl, b3⟩ := hS.2.1.get (x := 1) (t := (1, 9, 0)) rfl
          obtain ⟨v, f1, ss, rfl, f3⟩ := hS.2.1.get (x := 3) (t := (1, 4, 0)) rfl
          have a3 : ρ[m']? = some 30 := a3
          have hmm : m' = m := one_of hS.1 a3 hm (by decide)
          subst hmm
          have b3 : xx.toInt = gup (gup g 9 x.toInt) 4 s.toInt 9 + 0 := b3
          have f3 : ss.toInt = gup (gup g 9 x.toInt) 4 s.toInt 4 + 0 := f3
          rw [gup_self] at f3
          have b4 : gup (gup g 9 x.toInt) 4 s.toInt 9 = x.toInt := by
            unfold gup
            rw [if_neg (by decide), if_pos rfl]
          rw [b4] at b3
          have hxx : xx = x := Int32.toInt_inj.mp (by omega)
          have hss : ss = s := Int32.toInt_inj.mp (by omega)
          subst hxx
          subst hss
          refine ⟨600 * k + 100 + 2, by show ((600 * k + 100 + 2 : Nat) : Int) ≤ 400 + 0 + (600 * (k : Int) + 100); omega, ?_⟩
          have hc5 : h5.1[m']? = some (.inr (11, fs0.set 42 (.int (o + 1)))) := by
            rw [hS.2.2.2.2.1 m' 30 hm (by decide)]
            exact List.getElem?_set_self (by rw [List.length_set]; exact hlm)
          exact nxt h5 lv5 0 (okH_9' (okH_4' hS.1)) (hF4.trans (hS.2.2.2.2.mono rfl)) ⟨_, hc5, by rw [List.getElem?_set_ne (by omega)]; exact q2, o + 1, List.getElem?_set_self hl42, by omega⟩ a1 b1 f1 hS.2.2.2.1
        have G := seg_ok (rt := some (7, 0, 0)) (by omega) hgg (fun i q hq => (hall i q hq).nar okG4_60) (fun r h' _ _ q => elimT q) sF2_k hex
        obtain ⟨n, hn, kE⟩ := G _ 124 _ sF2_e124 lv [] _ ⟨hHg, okL.cons (v := .ref m) g0 ⟨m, rfl, hm⟩ (okL.cons (v := .int x) g1 ⟨x, rfl, by
          show x.toInt = gup (gup g 9 x.toInt) 4 s.toInt 9 + 0
          unfold gup
          rw [if_neg (by decide), if_pos rfl]
          omega⟩ (okL.cons (v := .int s) g3 ⟨s, rfl, by
          show s.toInt = gup (gup g 9 x.toInt) 4 s.toInt 4 + 0
          rw [gup_self]
          omega⟩ okL.nil)), trivial, g4, okFr.rfl⟩ (Int.le_refl _)
        have hn : (n : Int) ≤ 424 + 0 + (600 * (k : Int) + 100) := hn
        exact mE_le kE (by omega)
  -- from the houses' loop on
  have e61 : cntF xs x (g 11).toNat ≤ 8 → ∀ (h2 : mS) (lv : mL), okH rI0 g ρ h2.1 → okFr ρ [30, 41, 59, 60] h h2 → (∃ fs, h2.1[m]? = some (.inr (11, fs)) ∧ fs[10]? = some (.ref fa) ∧ ∃ o : Int32, fs[42]? = some (.int o) ∧ o.toInt = 0) → mget lv 0 = some (.ref m) → mget lv 1 = some (.int x) → (∃ mm : Int32, mget lv 2 = some (.int mm)) → (∀ q ∈ lv, mone q.2 = true) → mE (mcall (d + 1)) none 5 (mgd 200 mtX11_fewest) 50000 (61, lv, [], h2) (fun r h' => mretok (some .int) r = true ∧ FP g ρ h r h') := by
    intro hc8 h2 lv hH2 hF2 hfs g0 g1 g2 g3
    obtain ⟨fs0, q1, q2, o, q3, q4⟩ := hfs
    obtain ⟨m2, g2⟩ := g2
    have hHg : okH rI0 (gup g 9 x.toInt) ρ h2.1 := okH_9 hH2
    have hgg : okG aBl (gup g 9 x.toInt) := okG_up hg rfl x1 x2
    have hex : ∀ (pc : Nat) (A : aAn) (mm : Int), anaf sF1 pc = some A → pc ∈ [84] → Gs rI0 (gup g 9 x.toInt) ρ [60] h2 (d + 1) 5 (mgd 200 mtX11_fewest) (fun r h' => mretok (some .int) r = true ∧ FP g ρ h r h') 40000 mm (pc, A) := by
      intro pc A mm hA hpc
      rcases List.mem_cons.mp hpc with rfl | hpc
      rotate_left
      · cases hpc
      rw [sF1_e84] at hA
      cases hA
      intro lv5 st5 h5 hS _
      have hst := hS.2.2.1.nil
      subst hst
      obtain ⟨v, a1, m', rfl, a3⟩ := hS.2.1.get (x := 0) (t := (3, 30, 0)) rfl
      obtain ⟨v, b1, xx, rfl, b3⟩ := hS.2.1.get (x := 1) (t := (1, 9, 0)) rfl
      have a3 : ρ[m']? = some 30 := a3
      have hmm : m' = m := one_of hS.1 a3 hm (by decide)
      subst hmm
      have b3 : xx.toInt = gup g 9 x.toInt 9 + 0 := b3
      rw [gup_self] at b3
      have hxx : xx = x := Int32.toInt_inj.mp (by omega)
      subst hxx
      have a1 : mget lv5 0 = some (.ref m') := a1
      have b1 : mget lv5 1 = some (.int xx) := b1
      have hc5 : h5.1[m']? = some (.inr (11, fs0)) := by
        rw [hS.2.2.2.2.1 m' 30 hm (by decide)]
        exact q1
      refine ⟨600 * (g 11).toNat + 100 + 2, by show ((600 * (g 11).toNat + 100 + 2 : Nat) : Int) ≤ 400 + 0 + 40000; omega, ?_⟩
      refine mE_ico 85 0 rfl rfl rfl ?_
      refine p_ist rfl rfl hS.2.2.2.1 (fun lv6 r1 r2 r3 => ?_)
      exact loop3 hc8 (g 11).toNat h5 lv6 0 (okH_9' hS.1) (hF2.trans (hS.2.2.2.2.mono rfl)) ⟨fs0, hc5, q2, o, q3, by rw [e0]; show o.toInt = 0; exact q4⟩ (by omega) (by rw [e0]; omega) (by rw [r2 0 (by decide)]; exact a1) (by rw [r2 1 (by decide)]; exact b1) r1 r3
    have G := seg_ok (rt := some (7, 0, 0)) (by omega) hgg hall (fun r h' _ _ q => elimT q) sF1_k hex
    obtain ⟨n, hn, kE⟩ := G _ 61 _ sF1_e61 lv [] h2 ⟨hHg, okL.cons (v := .ref m) g0 ⟨m, rfl, hm⟩ (okL.cons (v := .int x) g1 ⟨x, rfl, by
      show x.toInt = gup g 9 x.toInt 9 + 0
      rw [gup_self]
      omega⟩ (okL.cons (v := .int m2) g2 (a32_ok m2) okL.nil)), trivial, g3, okFr.rfl⟩ (Int.le_refl _)
    have hn : (n : Int) ≤ 538 + 0 + 40000 := hn
    exact mE_le kE (by omega)
  -- the loop that counts
  have loop1 : ∀ (k : Nat) (h2 : mS) (lv : mL) (s mm : Int32), okH rI0 g ρ h2.1 → okFr ρ [30, 41, 59, 60] h h2 → (∃ fs, h2.1[m]? = some (.inr (11, fs)) ∧ fs[10]? = some (.ref fa) ∧ ∃ o : Int32, fs[42]? = some (.int o) ∧ o.toInt = 0) → 0 ≤ s.toInt → s.toInt + k = g 11 → mm.toInt = cntF xs x s.toInt.toNat → mm.toInt ≤ s.toInt → mget lv 0 = some (.ref m) → mget lv 1 = some (.int x) → mget lv 2 = some (.int mm) → mget lv 3 = some (.int s) → (∀ q ∈ lv, mone q.2 = true) → mE (mcall (d + 1)) none 5 (mgd 200 mtX11_fewest) (60 * k + 50100) (20, lv, [], h2) (fun r h' => mretok (some .int) r = true ∧ FP g ρ h r h') := by
    intro k
    induction k with
    | zero =>
      intro h2 lv s mm hH2 hF2 hfs s0 sk mc ms g0 g1 g2 g3 g4
      have hfs' := hfs
      obtain ⟨fs0, q1, q2, o, q3, q4⟩ := hfs
      obtain ⟨fs, s', o', ow, os, p1, p2, p3, p4, p5, p6, p7, p8, p9, p10, p11⟩ := fields h2 hH2 hF2 ⟨fs0, q1, q2⟩
      refine mE_ildn 21 rfl g3 rfl rfl ?_
      refine mE_aldn 22 rfl g0 rfl rfl ?_
      refine mE_gf 25 rfl rfl p1 p4 rfl ?_
      refine mE_ic_ge_t 52 rfl (Int32.le_iff_toInt_le.mpr (by omega)) rfl ?_
      refine mE_ildn 53 rfl g2 rfl rfl ?_
      refine mE_bip 55 8 rfl rfl rfl ?_
      refine mE_ic_le rfl (fun hle => ?_) (fun _ => ?_)
      · have hle := Int32.le_iff_toInt_le.mp hle
        have hsg : s.toInt.toNat = (g 11).toNat := by omega
        rw [hsg] at mc
        exact mE_le (e61 (by omega) h2 lv hH2 hF2 hfs' g0 g1 ⟨mm, g2⟩ g4) (by omega)
      · refine mE_bip 60 (-2) rfl rfl rfl ?_
        exact mE_iret rfl ⟨rfl, -2, rfl, hH2, hF2⟩
    | succ k ih =>
      intro h2 lv s mm hH2 hF2 hfs s0 sk mc ms g0 g1 g2 g3 g4
      have hfs' := hfs
      obtain ⟨fs0, q1, q2, o, q3, q4⟩ := hfs
      obtain ⟨fs, s', o', ow, os, p1, p2, p3, p4, p5, p6, p7, p8, p9, p10, p11⟩ := fields h2 hH2 hF2 ⟨fs0, q1, q2⟩
      obtain ⟨t1, t2, t3⟩ := at60 s s0 (by omega)
      have si1 : (s + 1).toInt = s.toInt + 1 := by rw [add_id (by omega) (by omega), e1]
      have hxs : xs[s.toNatClampNeg]? = some (xs[s.toNatClampNeg]'t3) := List.getElem?_eq_getElem t3
      have hsn : s.toNatClampNeg = s.toInt.toNat := rfl
      have hcs : cntF xs x (s + 1).toInt.toNat = cntF xs x s.toInt.toNat + (if xs[s.toInt.toNat]? = some x then 1 else 0) := by
        rw [show (s + 1).toInt.toNat = s.toInt.toNat + 1 by omega]
        rfl
      have j44 : ∀ (e : Int32) (n : Nat), (e.toInt = 0 ∨ e.toInt = 1) → mm.toInt + e.toInt = cntF xs x (s + 1).toInt.toNat → mE (mcall (d + 1)) none 5 (mgd 200 mtX11_fewest) (60 * k + 50100 + 4) (44, lv, [.int e, .int mm], h2) (fun r h' => mretok (some .int) r = true ∧ FP g ρ h r h') := by
        intro e n he hsum
        have hadd : (mm + e).toInt = mm.toInt + e.toInt := add_id (by omega) (by omega)
        refine mE_iadd 45 (mm + e) rfl rfl rfl ?_
        refine p_ist rfl rfl g4 (fun lv5 r1 r2 r3 => ?_)
        have u3 : mget lv5 3 = some (.int s) := by rw [r2 3 (by decide)]; exact g3
        refine mE_iinc 49 (s + 1) _ rfl u3 rfl rfl rfl rfl ?_
        refine mE_goto 20 rfl rfl ?_
        exact ih h2 _ (s + 1) (mm + e) hH2 hF2 hfs' (by omega) (by omega) (by omega) (by omega) (by rw [mget_put lv5 3 0 _ (by decide) r3, r2 0 (by decide)]; exact g0) (by rw [mget_put lv5 3 1 _ (by decide) r3, r2 1 (by decide)]; exact g1) (by rw [mget_put lv5 3 2 _ (by decide) r3]; exact r1) (mget_put_self _ _ _) (mput_mone r3 rfl)
      refine mE_ildn 21 rfl g3 rfl rfl ?_
      refine mE_aldn 22 rfl g0 rfl rfl ?_
      refine mE_gf 25 rfl rfl p1 p4 rfl ?_
      refine mE_ic_ge_f 28 rfl (fun q => by have := Int32.le_iff_toInt_le.mp q; omega) rfl ?_
      refine mE_ildn 29 rfl g2 rfl rfl ?_
      refine mE_aldn 30 rfl g0 rfl rfl ?_
      refine mE_gf 33 rfl rfl p1 p2 rfl ?_
      refine mE_ildn 34 rfl g3 rfl rfl ?_
      refine mE_ila 35 rfl p3 t1 hxs rfl ?_
      refine mE_ildn 36 rfl g1 rfl rfl ?_
      refine mE_ic_ne rfl (fun hne => ?_) (fun heq => ?_)
      · refine mE_ico 44 0 rfl rfl rfl ?_
        refine mE_le (j44 0 0 (Or.inl e0) ?_) (by omega)
        rw [hcs, if_neg (fun q => by rw [← hsn, hxs] at q; exact hne (Option.some.inj q)), e0, mc]
        rfl
      · have heq := Classical.not_not.mp heq
        refine mE_ico 40 1 rfl rfl rfl ?_
        refine mE_goto 44 rfl rfl ?_
        refine mE_le (j44 1 0 (Or.inr e1) ?_) (by omega)
        rw [hcs, if_pos (by rw [← hsn, hxs, heq]), e1, mc]
        rfl
  -- the beginning
  have e2 : (2 : Int32).toInt = 2 := by decide
  have hl42 : 42 < fsA.length := by rw [cA2]; exact Nat.le_of_ble_eq_true rfl
  have hlm : m < h.1.length := (List.getElem?_eq_some_iff.mp cA1).1
  refine mR_ix [(0, .ref m), (1, .int x)] rfl rfl rfl ?_
  refine mE_ildn 1 rfl rfl rfl rfl ?_
  refine mE_ico 2 0 rfl rfl rfl ?_
  refine mE_ico 3 2 rfl rfl rfl ?_
  refine mE_cs [.int x, .int 0, .int 2] [] rfl rfl rfl rfl rfl ?_
  obtain ⟨r, hh, k1, rfl, e9h⟩ := r_Mwithin d x 0 2 h
  subst e9h
  refine ⟨_, _, k1, ?_⟩
  refine mE_if_ne rfl (fun _ => ?_) (fun _ => ?_)
  rotate_left
  · refine mE_ico 10 (-1) rfl rfl rfl ?_
    exact mE_iret rfl ⟨rfl, -1, rfl, hH, okFr.rfl⟩
  refine mE_aldn 12 rfl rfl rfl rfl ?_
  refine mE_ico 13 0 rfl rfl rfl ?_
  refine mE_pf 16 rfl cA1 (by show (true && Nat.blt 42 fsA.length) = true; rw [Nat.blt_eq.mpr hl42]; rfl) rfl ?_
  have hH1 : okH rI0 g ρ (hh.1.set m (.inr (11, fsA.set 42 (.int 0)))) := hH.put hm rM_eq (j := 42) (t := (0, 0, 8)) rfl cA1 ⟨0, rfl, by decide, by decide⟩
  refine mE_ico 17 0 rfl rfl rfl ?_
  refine mE_istn 18 [(2, .int 0), (0, .ref m), (1, .int x)] rfl rfl rfl rfl ?_
  refine mE_ico 19 0 rfl rfl rfl ?_
  refine mE_istn 20 [(3, .int 0), (2, .int 0), (0, .ref m), (1, .int x)] rfl rfl rfl rfl ?_
  refine mE_le (loop1 (g 11).toNat _ _ 0 0 hH1 (okFr.set okFr.rfl hm (by decide)) ⟨_, List.getElem?_set_self hlm, by rw [List.getElem?_set_ne (by omega)]; exact cA4, 0, List.getElem?_set_self hl42, e0⟩ (by omega) (by rw [e0]; omega) (by rw [e0]; rfl) (by omega) rfl rfl rfl rfl (lvall _ rfl)) ?_
  refine Nat.le_trans (show 60 * (g 11).toNat + 50100 ≤ 60 * 60 + 50100 by omega) (Nat.le_of_ble_eq_true rfl)
