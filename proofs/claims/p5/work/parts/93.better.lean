/-! the reference's better: each time there are fewer PIECES -/
def pcE (D m : Nat) (h : mS) (v : Int32) : Prop := mcall D 145 [.ref m, .int (-1), .int (-1)] h = some (some (.int v), h)
theorem pc_ex {d : Nat} (hall : CTall ci_early d) {g : Nat → Int} {ρ : List Nat} {m : Nat} {h : mS} (hg : okG aBl g) (hH : okH rI0 g ρ h.1) (hm : ρ[m]? = some 30) : ∃ v : Int32, pcE d m h v := by
  obtain ⟨r, h', e1, e2, e3, v, rfl, ⟨x, rfl, -⟩, -⟩ := hall ci_M_pieces _ rfl g ρ [.ref m, .int (-1), .int (-1)] h hg hH ⟨⟨m, rfl, hm⟩, a32_ok _, a32_ok _, trivial⟩ (fun q hq => by cases hq)
  have hs := same_of hH e2 e3
  subst hs
  exact ⟨x, e1⟩
/-- what betters owes: 1 only where there are fewer -/
def BP (g : Nat → Int) (ρ : List Nat) (D m : Nat) (h : mS) (nv : Int32) : Option Value → mS → Prop := fun r h' => okH rI0 g ρ h'.1 ∧ okFr ρ [41] h h' ∧ (r = some (.int 0) ∨ (r = some (.int 1) ∧ ∃ v : Int32, pcE D m h' v ∧ v.toInt < nv.toInt))
set_option maxRecDepth 10000 in
set_option maxHeartbeats 1000000 in
theorem r_betters {d : Nat} (hall : CTall ci_early d) {g : Nat → Int} {ρ : List Nat} {m : Nat} {h : mS} (hg : okG aBl g) (hH : okH rI0 g ρ h.1) (hm : ρ[m]? = some 30) : ∃ nv : Int32, pcE d m h nv ∧ mR (d + 1) 156 [.ref m] h (BP g ρ d m h nv) := by
  obtain ⟨nv, hnv⟩ := pc_ex hall hg hH hm
  refine ⟨nv, hnv, ?_⟩
  have e1 : (1 : Int32).toInt = 1 := by decide
  have e0 : (0 : Int32).toInt = 0 := by decide
  have hgs := hg 11 (0, 60) rfl
  have hgs : 0 ≤ g 11 ∧ g 11 ≤ 60 := hgs
  have strips : ∀ h2 : mS, okH rI0 g ρ h2.1 → ∃ (fs : List Value) (s : Int32), h2.1[m]? = some (.inr (11, fs)) ∧ fs[21]? = some (.int s) ∧ s.toInt = g 11 := by
    intro h2 hH2
    obtain ⟨fs, c1, -, c3⟩ := fld hH2 hm rM_eq
    obtain ⟨v, d1, s, rfl, d2⟩ := c3 21 (1, 11, 0) rfl
    have d2 : s.toInt = g 11 + 0 := d2
    exact ⟨fs, s, c1, d1, by omega⟩
  have outer : ∀ (k : Nat) (h2 : mS) (lv : mL) (a : Int32), okH rI0 g ρ h2.1 → okFr ρ [41] h h2 → 0 ≤ a.toInt → a.toInt + k = 61 → mget lv 0 = some (.ref m) → mget lv 1 = some (.int nv) → mget lv 2 = some (.int a) → (∀ q ∈ lv, mone q.2 = true) → mE (mcall d) none 4 (mgd 70 mtX11_betters) (8000 * k + 100) (9, lv, [], h2) (fun r h' => mretok (some .boolean) r = true ∧ BP g ρ d m h nv r h') := by
    intro k
    induction k with
    | zero =>
      intro h2 lv a hH2 hF2 a0 ak g0 g1 g2 g3
      obtain ⟨fs, s, c1, c2, c3⟩ := strips h2 hH2
      refine mE_ildn 10 rfl g2 rfl rfl ?_
      refine mE_aldn 11 rfl g0 rfl rfl ?_
      refine mE_gf 14 rfl rfl c1 c2 rfl ?_
      refine mE_ic_ge_t 68 rfl (Int32.le_iff_toInt_le.mpr (by omega)) rfl ?_
      refine mE_ico 69 0 rfl rfl rfl ?_
      exact mE_iret rfl ⟨rfl, hH2, hF2, Or.inl rfl⟩
    | succ k ihO =>
      intro h2 lv a hH2 hF2 a0 ak g0 g1 g2 g3
      obtain ⟨fs, s, c1, c2, c3⟩ := strips h2 hH2
      refine mE_ildn 10 rfl g2 rfl rfl ?_
      refine mE_aldn 11 rfl g0 rfl rfl ?_
      refine mE_gf 14 rfl rfl c1 c2 rfl ?_
      refine mE_ic_ge rfl (fun hge => ?_) (fun hlt => ?_)
      · refine mE_ico 69 0 rfl rfl rfl ?_
        exact mE_iret rfl ⟨rfl, hH2, hF2, Or.inl rfl⟩
      · have hlt := Int32.lt_iff_toInt_lt.mp (Int32.not_le.mp hlt)
        have a1 : (a + 1).toInt = a.toInt + 1 := by rw [add_id (by omega) (by omega), e1]
        have inner : ∀ (j : Nat) (h3 : mS) (lv3 : mL) (b : Int32), okH rI0 g ρ h3.1 → okFr ρ [41] h h3 → 0 ≤ b.toInt → b.toInt + j = 61 → mget lv3 0 = some (.ref m) → mget lv3 1 = some (.int nv) → mget lv3 2 = some (.int a) → mget lv3 3 = some (.int b) → (∀ q ∈ lv3, mone q.2 = true) → mE (mcall d) none 4 (mgd 70 mtX11_betters) (8000 * k + 60 * j + 160) (21, lv3, [], h3) (fun r h' => mretok (some .boolean) r = true ∧ BP g ρ d m h nv r h') := by
          intro j
          have out : ∀ (h3 : mS) (lv3 : mL) (b : Nat), okH rI0 g ρ h3.1 → okFr ρ [41] h h3 → mget lv3 0 = some (.ref m) → mget lv3 1 = some (.int nv) → mget lv3 2 = some (.int a) → (∀ q ∈ lv3, mone q.2 = true) → mE (mcall d) none 4 (mgd 70 mtX11_betters) (8000 * k + 100 + 2) (62, lv3, [], h3) (fun r h' => mretok (some .boolean) r = true ∧ BP g ρ d m h nv r h') := by
            intro h3 lv3 b hH3 hF3 r0 r1 r2 r4
            refine mE_iinc 65 (a + 1) _ rfl r2 rfl rfl rfl rfl ?_
            refine mE_goto 9 rfl rfl ?_
            exact ihO h3 _ (a + 1) hH3 hF3 (by omega) (by omega) (by rw [mget_put lv3 2 0 _ (by decide) r4]; exact r0) (by rw [mget_put lv3 2 1 _ (by decide) r4]; exact r1) (mget_put_self _ _ _) (mput_mone r4 rfl)
          induction j with
          | zero =>
            intro h3 lv3 b hH3 hF3 b0 bk r0 r1 r2 r3 r4
            obtain ⟨fs3, s3, p1, p2, p3⟩ := strips h3 hH3
            refine mE_ildn 22 rfl r3 rfl rfl ?_
            refine mE_aldn 23 rfl r0 rfl rfl ?_
            refine mE_gf 26 rfl rfl p1 p2 rfl ?_
            refine mE_ic_ge_t 62 rfl (Int32.le_iff_toInt_le.mpr (by omega)) rfl ?_
            exact mE_le (out h3 lv3 0 hH3 hF3 r0 r1 r2 r4) (by omega)
          | succ j ihI =>
            intro h3 lv3 b hH3 hF3 b0 bk r0 r1 r2 r3 r4
            obtain ⟨fs3, s3, p1, p2, p3⟩ := strips h3 hH3
            refine mE_ildn 22 rfl r3 rfl rfl ?_
            refine mE_aldn 23 rfl r0 rfl rfl ?_
            refine mE_gf 26 rfl rfl p1 p2 rfl ?_
            refine mE_ic_ge rfl (fun hge => ?_) (fun hlb => ?_)
            · exact mE_le (out h3 lv3 0 hH3 hF3 r0 r1 r2 r4) (by omega)
            · have hlb := Int32.lt_iff_toInt_lt.mp (Int32.not_le.mp hlb)
              have b1 : (b + 1).toInt = b.toInt + 1 := by rw [add_id (by omega) (by omega), e1]
              have ta : hasT g ρ (2, 11, -1) (.int a) := ⟨a, rfl, a0, by show a.toInt ≤ g 11 + -1; omega⟩
              have tb : hasT g ρ (2, 11, -1) (.int b) := ⟨b, rfl, b0, by show b.toInt ≤ g 11 + -1; omega⟩
              have nxt : ∀ h4 : mS, okH rI0 g ρ h4.1 → okFr ρ [41] h h4 → mE (mcall d) none 4 (mgd 70 mtX11_betters) (8000 * k + 60 * j + 160 + 2) (56, lv3, [], h4) (fun r h' => mretok (some .boolean) r = true ∧ BP g ρ d m h nv r h') := by
                intro h4 hH4 hF4
                refine mE_iinc 59 (b + 1) _ rfl r3 rfl rfl rfl rfl ?_
                refine mE_goto 21 rfl rfl ?_
                exact ihI h4 _ (b + 1) hH4 hF4 (by omega) (by omega) (by rw [mget_put lv3 3 0 _ (by decide) r4]; exact r0) (by rw [mget_put lv3 3 1 _ (by decide) r4]; exact r1) (by rw [mget_put lv3 3 2 _ (by decide) r4]; exact r2) (mget_put_self _ _ _) (mput_mone r4 rfl)
              refine mE_aldn 30 rfl r0 rfl rfl ?_
              refine mE_ildn 31 rfl r2 rfl rfl ?_
              refine mE_ildn 32 rfl r3 rfl rfl ?_
              refine mE_cv [.int a, .int b] [] rfl rfl rfl rfl p1 rfl ?_
              obtain ⟨r, h4, k1, k2, k3, v, rfl, ⟨z, rfl, z1, z2⟩, -⟩ := hall ci_M_exchange _ rfl g ρ [.ref m, .int a, .int b] h3 hg hH3 ⟨⟨m, rfl, hm⟩, ta, tb, trivial⟩ (fun q hq => by cases hq)
              refine ⟨_, _, k1, ?_⟩
              have hF4 : okFr ρ [41] h h4 := hF3.trans k3
              refine mE_if_eq rfl (fun _ => ?_) (fun _ => ?_)
              · exact mE_le (nxt h4 k2 hF4) (by omega)
              · obtain ⟨w, hw⟩ := pc_ex hall hg k2 hm
                obtain ⟨fs4, y1, -, -⟩ := fld k2 hm rM_eq
                refine mE_aldn 39 rfl r0 rfl rfl ?_
                refine mE_ico 40 (-1) rfl rfl rfl ?_
                refine mE_ico 41 (-1) rfl rfl rfl ?_
                refine mE_cv [.int (-1), .int (-1)] [] rfl rfl rfl rfl y1 rfl ?_
                refine ⟨_, _, hw, ?_⟩
                refine mE_ildn 45 rfl r1 rfl rfl ?_
                refine mE_ic_ge rfl (fun _ => ?_) (fun hless => ?_)
                · refine mE_aldn 51 rfl r0 rfl rfl ?_
                  refine mE_ildn 52 rfl r2 rfl rfl ?_
                  refine mE_ildn 53 rfl r3 rfl rfl ?_
                  refine mE_cv [.int a, .int b] [] rfl rfl rfl rfl y1 rfl ?_
                  obtain ⟨r, h5, w1, w2, w3, w4⟩ := hall ci_M_changeOver _ rfl g ρ [.ref m, .int a, .int b] h4 hg k2 ⟨⟨m, rfl, hm⟩, ta, tb, trivial⟩ (fun q hq => by cases hq)
                  have w4 : r = none := w4
                  subst w4
                  refine ⟨_, _, w1, ?_⟩
                  exact mE_le (nxt h5 w2 (hF4.trans w3)) (by omega)
                · have hless := Int32.lt_iff_toInt_lt.mp (Int32.not_le.mp hless)
                  refine mE_ico 49 1 rfl rfl rfl ?_
                  exact mE_iret rfl ⟨rfl, k2, hF4, Or.inr ⟨rfl, w, hw, hless⟩⟩
        refine mE_ildn 18 rfl g2 rfl rfl ?_
        refine mE_ico 19 1 rfl rfl rfl ?_
        refine mE_iadd 20 (a + 1) rfl rfl rfl ?_
        refine p_ist rfl rfl g3 (fun lv3 r1 r2 r3 => ?_)
        refine mE_le (inner (60 - a.toInt.toNat) h2 lv3 (a + 1) hH2 hF2 (by omega) (by omega) (by rw [r2 0 (by decide)]; exact g0) (by rw [r2 1 (by decide)]; exact g1) (by rw [r2 2 (by decide)]; exact g2) r1 r3) (by omega)
  obtain ⟨fs, c1, -, -⟩ := fld hH hm rM_eq
  refine mR_ix [(0, .ref m)] rfl rfl rfl ?_
  refine mE_aldn 1 rfl rfl rfl rfl ?_
  refine mE_ico 2 (-1) rfl rfl rfl ?_
  refine mE_ico 3 (-1) rfl rfl rfl ?_
  refine mE_cv [.int (-1), .int (-1)] [] rfl rfl rfl rfl c1 rfl ?_
  refine ⟨_, _, hnv, ?_⟩
  refine mE_istn 7 [(1, .int nv), (0, .ref m)] rfl rfl rfl rfl ?_
  refine mE_ico 8 0 rfl rfl rfl ?_
  refine mE_istn 9 [(2, .int 0), (1, .int nv), (0, .ref m)] rfl rfl rfl rfl ?_
  exact mE_le (outer 61 h _ 0 hH okFr.rfl (by omega) (by rw [e0]; omega) rfl rfl rfl (lvall _ rfl)) (Nat.le_of_ble_eq_true rfl)
set_option maxRecDepth 10000 in
theorem t_Mbetter {d : Nat} (hall : CTall ci_early d) {g : Nat → Int} {ρ : List Nat} {m : Nat} {h : mS} (hg : okG aBl g) (hH : okH rI0 g ρ h.1) (hm : ρ[m]? = some 30) : mR (d + 2) 157 [.ref m] h (fun r h' => ∃ v : Int32, r = some (.int v) ∧ okH rI0 g ρ h'.1 ∧ okFr ρ [41] h h') := by
  have key : ∀ (k : Nat) (h2 : mS) (lv : mL) (x nv : Int32), okH rI0 g ρ h2.1 → okFr ρ [41] h h2 → pcE d m h2 nv → nv.toInt + 2147483648 ≤ k → mget lv 0 = some (.ref m) → mget lv 1 = some (.int x) → (∀ q ∈ lv, mone q.2 = true) → mE (mcall (d + 1)) none 2 (mgd 17 mtX11_better) (10 * k + 10) (2, lv, [], h2) (fun r h' => mretok (some .int) r = true ∧ ∃ v : Int32, r = some (.int v) ∧ okH rI0 g ρ h'.1 ∧ okFr ρ [41] h h') := by
    intro k
    induction k using Nat.strongRecOn with
    | ind k ih =>
      intro h2 lv x nv hH2 hF2 hp hk g0 g1 g3
      have hlo := Int32.le_toInt nv
      obtain ⟨nv', hp', r, h3, k1, k2, k3, k4⟩ := r_betters hall hg hH2 hm
      have hnn : nv' = nv := by
        unfold pcE at hp hp'
        rw [hp] at hp'
        cases hp'
        rfl
      subst hnn
      obtain ⟨fs, c1, -, -⟩ := fld hH2 hm rM_eq
      refine mE_aldn 3 rfl g0 rfl rfl ?_
      refine mE_cv [] [] rfl rfl rfl rfl c1 rfl ?_
      refine ⟨_, _, k1, ?_⟩
      rcases k4 with rfl | ⟨rfl, w, hw, hlt⟩
      · refine mE_if_eq_t 15 rfl rfl rfl ?_
        refine mE_ildn 16 rfl g1 rfl rfl ?_
        exact mE_iret rfl ⟨rfl, x, rfl, k2, hF2.trans k3⟩
      · refine mE_if_eq_f 9 rfl (by decide) rfl ?_
        refine mE_iinc 12 (x + 1) _ rfl g1 rfl rfl rfl rfl ?_
        refine mE_goto 2 rfl rfl ?_
        have hw0 := Int32.le_toInt w
        have hw0 : -2147483648 ≤ w.toInt := hw0
        exact mE_le (ih (w.toInt + 2147483648).toNat (by omega) h3 _ (x + 1) w k2 (hF2.trans k3) hw (by omega) (by rw [mget_put lv 1 0 _ (by decide) g3]; exact g0) (mget_put_self _ _ _) (mput_mone g3 rfl)) (by omega)
  obtain ⟨nv, hnv⟩ := pc_ex hall hg hH hm
  have hhi := Int32.toInt_lt nv
  have hhi : nv.toInt < 2147483648 := hhi
  refine mR_ix [(0, .ref m)] rfl rfl rfl ?_
  refine mE_ico 1 0 rfl rfl rfl ?_
  refine mE_istn 2 [(1, .int 0), (0, .ref m)] rfl rfl rfl rfl ?_
  exact mE_le (key 4294967296 h _ 0 nv hH okFr.rfl hnv (by omega) rfl rfl (lvall _ rfl)) (Nat.le_of_ble_eq_true rfl)
set_option maxRecDepth 10000 in
/-- the reference's feed: outside 1 .. 4 nothing, inside by types -/
theorem t_Mfeed {d : Nat} (hall : CTall ci_early (d + 2)) {g : Nat → Int} {ρ : List Nat} {m : Nat} {x y : Int32} {h : mS} (hg : okG aBl g) (hH : okH rI0 g ρ h.1) (hm : ρ[m]? = some 30) : mR (d + 2) 123 [.ref m, .int x, .int y] h (fun r h' => ∃ v : Int32, r = some (.int v) ∧ okH rI0 g ρ h'.1 ∧ okFr ρ [30, 50] h h') := by
  have e1 : (1 : Int32).toInt = 1 := by decide
  have e4 : (4 : Int32).toInt = 4 := by decide
  have go : ∀ (k : Int) (id : Nat) (ret : aV), x.toInt = k → ctU ci_early id = some (123, [(3, 30, 0), (0, k, k), a32], [], some (ret, 0, a32), [30, 50]) → aint aBl ret = true → mR (d + 2) 123 [.ref m, .int x, .int y] h (fun r h' => ∃ v : Int32, r = some (.int v) ∧ okH rI0 g ρ h'.1 ∧ okFr ρ [30, 50] h h') := by
    intro k id ret hk hid hret
    obtain ⟨r, h', e1, e2, e3, v, rfl, hv, -⟩ := hall id _ hid g ρ [.ref m, .int x, .int y] h hg hH ⟨⟨m, rfl, hm⟩, ⟨x, rfl, by show k ≤ x.toInt; omega, by show x.toInt ≤ k; omega⟩, a32_ok y, trivial⟩ (fun q hq => by cases hq)
    obtain ⟨z, rfl⟩ := aint_ok hg hret hv
    exact ⟨_, _, e1, z, rfl, e2, e3⟩
  by_cases hx : 1 ≤ x.toInt ∧ x.toInt ≤ 4
  · rcases (show x.toInt = 1 ∨ x.toInt = 2 ∨ x.toInt = 3 ∨ x.toInt = 4 by omega) with q | q | q | q
    · exact go 1 ci_M_feed1 _ q rfl rfl
    · exact go 2 ci_M_feed2 _ q rfl rfl
    · exact go 3 ci_M_feed3 _ q rfl rfl
    · exact go 4 ci_M_feed4 _ q rfl rfl
  · refine mR_ix [(0, .ref m), (1, .int x), (2, .int y)] rfl rfl rfl ?_
    refine mE_ildn 1 rfl rfl rfl rfl ?_
    refine mE_ico 2 1 rfl rfl rfl ?_
    refine mE_ico 3 4 rfl rfl rfl ?_
    refine mE_cs [.int x, .int 1, .int 4] [] rfl rfl rfl rfl rfl ?_
    obtain ⟨r, hh, k1, rfl, e9h⟩ := r_Mwithin d x 1 4 h
    subst e9h
    refine ⟨_, _, k1, ?_⟩
    refine mE_if_ne_f 9 rfl (fun q => q (bit0_iff.mpr (fun z => hx (by rw [within_iff, e1, e4] at z; exact z)))) rfl ?_
    refine mE_ico 10 (-1) rfl rfl rfl ?_
    exact mE_iret rfl ⟨rfl, -1, rfl, hH, okFr.rfl⟩
