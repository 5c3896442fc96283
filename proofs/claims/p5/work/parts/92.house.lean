def aBl10 : aB := aBl.set 10 (0, 11)
def sI_4 : aAn := ([(0, (3, 25, 0)), (1, a32), (2, a32), (3, a32)], [], (31, []))
def sI : List (Nat × aAn) := [(4, sI_4)]
set_option maxRecDepth 100000 in
theorem sI_k : sI.all (fun q => ([] : List Nat).elem q.1 || ahead aBl rI0 (ctU ci_early) (alook []) [25] none 4 (mgd 55 mtX4_init) (anaf sI) 35 q.1) = true := by decide +kernel
theorem sI_e4 : anaf sI 4 = some sI_4 := rfl
def sMh_35 : aAn := ([(0, (3, 30, 0)), (1, a32), (2, a32)], [], (412, []))
def sMh_55 : aAn := ([(0, (3, 30, 0)), (1, a32), (2, a32)], [], (400, []))
def sMh : List (Nat × aAn) := [(35, sMh_35),
  (55, sMh_55)]
set_option maxRecDepth 100000 in
theorem sMh_k : sMh.all (fun q => ([55] : List Nat).elem q.1 || ahead aBl10 rI0 (ctU ci_early) (alook []) [32, 33] (some (7, 0, 0)) 3 (mgd 72 mtX11_house) (anaf sMh) 43 q.1) = true := by decide +kernel
theorem sMh_e35 : anaf sMh 35 = some sMh_35 := rfl
theorem sMh_e55 : anaf sMh 55 = some sMh_55 := rfl
/-! a cell more -/
theorem hasT_app {g : Nat → Int} {ρ : List Nat} {r : Nat} {t : aV} {v : Value} (hv : hasT g ρ t v) : hasT g (ρ ++ [r]) t v := by
  have key : ∀ (k s : Nat), ρ[k]? = some s → (ρ ++ [r])[k]? = some s := fun k s hk => by
    rw [List.getElem?_append_left (List.getElem?_eq_some_iff.mp hk).1]
    exact hk
  unfold hasT at hv ⊢
  split at hv
  · exact hv
  · exact hv
  · exact hv
  · obtain ⟨k, rfl, hk⟩ := hv
    exact ⟨k, rfl, key _ _ hk⟩
  · rcases hv with rfl | ⟨k, rfl, hk⟩
    · exact Or.inl rfl
    · exact Or.inr ⟨k, rfl, key _ _ hk⟩
  · exact hv
  · exact hv
  · exact hv
theorem okC_app {g : Nat → Int} {ρ : List Nat} {r : Nat} {R : aR} {c : mC} (hc : okC g ρ R c) : okC g (ρ ++ [r]) R c := by
  unfold okC at hc ⊢
  split at hc
  · obtain ⟨fs, e1, e2, e3⟩ := hc
    exact ⟨fs, e1, e2, fun j t v h1 h2 => hasT_app (e3 j t v h1 h2)⟩
  · exact hc
  · obtain ⟨qs, e1, e2, e3⟩ := hc
    refine ⟨qs, e1, e2, fun j q h1 => ?_⟩
    rcases e3 j q h1 with h2 | ⟨k, h2, h3⟩
    · exact Or.inl h2
    · exact Or.inr ⟨k, h2, by rw [List.getElem?_append_left (List.getElem?_eq_some_iff.mp h3).1]; exact h3⟩
theorem okH_app {g : Nat → Int} {ρ : List Nat} {h : List mC} {r : Nat} {R : aR} {c : mC} (hH : okH rI0 g ρ h) (hr : rI0 r = some R) (hgr : grp r = 0) (hc : okC g (ρ ++ [r]) R c) : okH rI0 g (ρ ++ [r]) (h ++ [c]) := by
  refine ⟨by rw [List.length_append, List.length_append, hH.1]; rfl, fun k s c' h1 h2 => ?_, fun k k' s s' h1 h2 h3 h4 => ?_⟩
  · by_cases hk : k < ρ.length
    · rw [List.getElem?_append_left hk] at h1
      rw [List.getElem?_append_left (by rw [← hH.1]; exact hk)] at h2
      obtain ⟨R', e1, e2⟩ := hH.2.1 k s c' h1 h2
      exact ⟨R', e1, okC_app e2⟩
    · rw [List.getElem?_append_right (by omega)] at h1
      rw [List.getElem?_append_right (by rw [← hH.1]; omega)] at h2
      have hk0 : k - ρ.length = 0 := by
        have := (List.getElem?_eq_some_iff.mp h1).1
        simp at this
        omega
      rw [hk0] at h1
      rw [← hH.1, hk0] at h2
      cases h1
      cases h2
      exact ⟨R, hr, hc⟩
  · have one : ∀ (j u : Nat), (ρ ++ [r])[j]? = some u → grp u ≠ 0 → ρ[j]? = some u := by
      intro j u q1 q2
      by_cases hj : j < ρ.length
      · rw [List.getElem?_append_left hj] at q1
        exact q1
      · exfalso
        rw [List.getElem?_append_right (by omega)] at q1
        have hk0 : j - ρ.length = 0 := by
          have := (List.getElem?_eq_some_iff.mp q1).1
          simp at this
          omega
        rw [hk0] at q1
        cases q1
        exact q2 hgr
    exact hH.2.2 k k' s s' (one k s h1 h4) (one k' s' h2 (by rw [← h3]; exact h4)) h3 h4
theorem app_at {ρ : List Nat} {k r s : Nat} (hk : ρ[k]? = some s) : (ρ ++ [r])[k]? = some s := by
  rw [List.getElem?_append_left (List.getElem?_eq_some_iff.mp hk).1]
  exact hk
theorem mg_app2 {l : List mC} {k : Nat} {e c : mC} (h : l[k]? = some c) : (l ++ [e])[k]? = some c := by
  rw [List.getElem?_append_left (List.getElem?_eq_some_iff.mp h).1]
  exact h
set_option maxRecDepth 10000 in
theorem r_houseInit {d : Nat} (hall : CTall ci_early d) {g : Nat → Int} {ρ : List Nat} {k : Nat} {a b c : Int32} {h : mS} (hg : okG aBl g) (hH : okH rI0 g ρ h.1) (hk : ρ[k]? = some 25) : mR (d + 1) 16 [.ref k, .int a, .int b, .int c] h (fun r h' => r = none ∧ okH rI0 g ρ h'.1 ∧ okFr ρ [25] h h') := by
  have G := seg_ok (h0 := h) (ρ := ρ) (X := 0) (P := fun r h' => mretok none r = true ∧ (r = none ∧ okH rI0 g ρ h'.1 ∧ okFr ρ [25] h h')) (rt := none) (Int.le_refl 0) hg hall (fun r h' q1 q2 q3 => by
    have q3 : r = none := q3
    subst q3
    exact ⟨rfl, rfl, q1, q2⟩) sI_k (fun pc A mm hA hpc => by cases hpc)
  refine mR_ix [(0, .ref k), (1, .int a), (2, .int b), (3, .int c)] rfl rfl rfl ?_
  refine mE_aldn 1 rfl rfl rfl rfl ?_
  refine mE_oi 4 rfl rfl rfl rfl ?_
  obtain ⟨n, hn, kE⟩ := G _ 4 _ sI_e4 [(0, .ref k), (1, .int a), (2, .int b), (3, .int c)] [] h ⟨hH, okL.cons (v := .ref k) rfl ⟨k, rfl, hk⟩ (okL.cons (v := .int a) rfl (a32_ok a) (okL.cons (v := .int b) rfl (a32_ok b) (okL.cons (v := .int c) rfl (a32_ok c) okL.nil))), trivial, lvall _ rfl, okFr.rfl⟩ (Int.le_refl _)
  have hn : (n : Int) ≤ 31 + 0 + 0 := hn
  exact mE_le kE (by show n ≤ 999999999998; omega)
/-- what house does: b and n as the document says them -/
def hOk (b n : Int32) : Prop := (0 ≤ b.toInt ∧ b.toInt ≤ 10000) ∧ (0 ≤ n.toInt ∧ n.toInt ≤ 9)
def hW (c : Int) (b n : Int32) (v : Int32) (w : Int) : Prop := (hOk b n ∧ c < 12 ∧ v.toInt = c ∧ w = c + 1) ∨ (hOk b n ∧ 12 ≤ c ∧ v = -2 ∧ w = c) ∨ (¬ hOk b n ∧ v = -1 ∧ w = c)
theorem within_iff {v a b : Int32} : (a ≤ v ∧ v ≤ b) ↔ (a.toInt ≤ v.toInt ∧ v.toInt ≤ b.toInt) := by rw [Int32.le_iff_toInt_le, Int32.le_iff_toInt_le]
set_option maxRecDepth 10000 in
set_option maxHeartbeats 1000000 in
theorem t_house {d : Nat} (hall : CTall ci_early d) {g : Nat → Int} {ρ : List Nat} {m : Nat} {x y : Int32} {h : mS} (hg : okG aBl g) (hH : okH rI0 g ρ h.1) (hm : ρ[m]? = some 0) : mR (d + 2) 58 [.ref m, .int x, .int y] h (fun r h' => ∃ (v : Int32) (w : Int) (ρ' : List Nat), r = some (.int v) ∧ okH rI0 (gup g 0 w) ρ' h'.1 ∧ hW (g 0) x y v w ∧ (w = g 0 ∧ ρ' = ρ ∧ h' = h ∨ w = g 0 + 1 ∧ ρ' = ρ ++ [25] ∧ h'.2 = h.2 + 10) ∧ (∀ k r : Nat, ρ[k]? = some r → r ∉ [0, 1, 25] → h'.1[k]? = h.1[k]?)) := by
  have hg0 := hg 0 (0, 12) rfl
  have hg0 : 0 ≤ g 0 ∧ g 0 ≤ 12 := hg0
  have e0 : (0 : Int32).toInt = 0 := by decide
  have e1 : (1 : Int32).toInt = 1 := by decide
  have e9 : (9 : Int32).toInt = 9 := by decide
  have e12 : (12 : Int32).toInt = 12 := by decide
  have e10000 : (10000 : Int32).toInt = 10000 := by decide
  obtain ⟨fs, c1, c2, c3⟩ := fld hH hm rO_eq
  obtain ⟨v10, d1, c, rfl, d2⟩ := c3 10 (1, 0, 0) rfl
  have d2 : c.toInt = g 0 + 0 := d2
  have stay : ∀ v : Int32, hW (g 0) x y v (g 0) → ∃ (v' : Int32) (w : Int) (ρ' : List Nat), some (Value.int v) = some (.int v') ∧ okH rI0 (gup g 0 w) ρ' h.1 ∧ hW (g 0) x y v' w ∧ (w = g 0 ∧ ρ' = ρ ∧ h = h ∨ w = g 0 + 1 ∧ ρ' = ρ ++ [25] ∧ h.2 = h.2 + 10) ∧ (∀ k r : Nat, ρ[k]? = some r → r ∉ [0, 1, 25] → h.1[k]? = h.1[k]?) := fun v hv => ⟨v, g 0, ρ, rfl, by rw [gup_same]; exact hH, hv, Or.inl ⟨rfl, rfl, rfl⟩, fun _ _ _ _ => rfl⟩
  have no : ∀ b : Nat, ¬ hOk x y → mE (mcall (d + 1)) none 3 (mgd 74 mtX10_house) (b + 2) (21, [(0, .ref m), (1, .int x), (2, .int y)], [], h) (fun r h' => mretok (some .int) r = true ∧ ∃ (v : Int32) (w : Int) (ρ' : List Nat), r = some (.int v) ∧ okH rI0 (gup g 0 w) ρ' h'.1 ∧ hW (g 0) x y v w ∧ (w = g 0 ∧ ρ' = ρ ∧ h' = h ∨ w = g 0 + 1 ∧ ρ' = ρ ++ [25] ∧ h'.2 = h.2 + 10) ∧ (∀ k r : Nat, ρ[k]? = some r → r ∉ [0, 1, 25] → h'.1[k]? = h.1[k]?)) := by
    intro b hn
    refine mE_ico 22 (-1) rfl rfl rfl ?_
    exact mE_iret rfl ⟨rfl, stay (-1) (Or.inr (Or.inr ⟨hn, rfl, rfl⟩))⟩
  refine mR_ix [(0, .ref m), (1, .int x), (2, .int y)] rfl rfl rfl ?_
  refine mE_ildn 1 rfl rfl rfl rfl ?_
  refine mE_ico 2 0 rfl rfl rfl ?_
  refine mE_sip 5 10000 rfl rfl rfl ?_
  refine mE_cs [.int x, .int 0, .int 10000] [] rfl rfl rfl rfl rfl ?_
  obtain ⟨r, hh, k1, rfl, e9h⟩ := r_within d x 0 10000 h
  subst e9h
  refine ⟨_, _, k1, ?_⟩
  refine mE_if_eq rfl (fun hx => ?_) (fun hx => ?_)
  · have hx := bit0_iff.mp hx
    rw [within_iff, e0, e10000] at hx
    exact mE_le (no 0 (fun q => hx q.1)) (Nat.le_of_ble_eq_true rfl)
  have hx := Classical.not_not.mp (fun q => hx (bit0_iff.mpr q))
  rw [within_iff, e0, e10000] at hx
  refine mE_ildn 12 rfl rfl rfl rfl ?_
  refine mE_ico 13 0 rfl rfl rfl ?_
  refine mE_bip 15 9 rfl rfl rfl ?_
  refine mE_cs [.int y, .int 0, .int 9] [] rfl rfl rfl rfl rfl ?_
  obtain ⟨r, hh2, k2, rfl, e9h2⟩ := r_within d y 0 9 hh
  subst e9h2
  refine ⟨_, _, k2, ?_⟩
  refine mE_if_ne rfl (fun hy => ?_) (fun hy => ?_)
  rotate_left
  · have hy := bit0_iff.mp (Classical.not_not.mp hy)
    rw [within_iff, e0, e9] at hy
    exact mE_le (no 0 (fun q => hy q.2)) (Nat.le_of_ble_eq_true rfl)
  have hy := Classical.not_not.mp (fun q => hy (bit0_iff.mpr q))
  rw [within_iff, e0, e9] at hy
  refine mE_aldn 24 rfl rfl rfl rfl ?_
  refine mE_gf 27 rfl rfl c1 d1 rfl ?_
  refine mE_bip 29 12 rfl rfl rfl ?_
  refine mE_ic_lt rfl (fun hc => ?_) (fun hc => ?_)
  rotate_left
  · have hc := Int32.le_iff_toInt_le.mp (Int32.not_lt.mp hc)
    refine mE_bip 34 (-2) rfl rfl rfl ?_
    exact mE_iret rfl ⟨rfl, stay (-2) (Or.inr (Or.inl ⟨⟨hx, hy⟩, by omega, rfl, rfl⟩))⟩
  have hc := Int32.lt_iff_toInt_lt.mp hc
  have hc : c.toInt < 12 := by omega
  obtain ⟨v0, f1, ha, rfl, f2⟩ := c3 0 (3, 1, 0) rfl
  have f2 : ρ[ha]? = some 1 := f2
  refine mE_aldn 36 rfl rfl rfl rfl ?_
  refine mE_gf 39 rfl rfl c1 f1 rfl ?_
  refine mE_aldn 40 rfl rfl rfl rfl ?_
  refine mE_gf 43 rfl rfl c1 d1 rfl ?_
  refine mE_new 46 hh2.1.length [.int 0, .int 0, .int 0, .int 0, .int 0, .int 0, .int 0, .int 0, .int 0, .int 0] 10 rfl rfl rfl rfl rfl ?_
  have hcN : okC g (ρ ++ [25]) (.inl (4, rOf 25)) (.inr (4, [.int 0, .int 0, .int 0, .int 0, .int 0, .int 0, .int 0, .int 0, .int 0, .int 0])) := by
    refine ⟨_, rfl, rfl, fun j t v a1 a2 => ?_⟩
    have z1 : ∀ t' : aV, some t' = some t → hasT g (ρ ++ [25]) t' (.int 0) → hasT g (ρ ++ [25]) t (.int 0) := fun t' q1 q2 => by cases q1; exact q2
    match j, a1, a2 with
    | 0, a1, a2 => cases a2; exact z1 a32 a1 (a32_ok 0)
    | 1, a1, a2 => cases a2; exact z1 a32 a1 (a32_ok 0)
    | 2, a1, a2 => cases a2; exact z1 a32 a1 (a32_ok 0)
    | 3, a1, a2 => cases a2; exact z1 (0, 0, 9) a1 ⟨0, rfl, by decide, by decide⟩
    | 4, a1, a2 => cases a2; exact z1 a32 a1 (a32_ok 0)
    | 5, a1, a2 => cases a2; exact z1 a32 a1 (a32_ok 0)
    | 6, a1, a2 => cases a2; exact z1 a32 a1 (a32_ok 0)
    | 7, a1, a2 => cases a2; exact z1 a32 a1 (a32_ok 0)
    | 8, a1, a2 => cases a2; exact z1 a32 a1 (a32_ok 0)
    | 9, a1, a2 => cases a2; exact z1 a32 a1 (a32_ok 0)
    | j + 10, a1, a2 => cases a2
  have hH1 : okH rI0 g (ρ ++ [25]) (hh2.1 ++ [.inr (4, [.int 0, .int 0, .int 0, .int 0, .int 0, .int 0, .int 0, .int 0, .int 0, .int 0])]) := okH_app hH rfl (by decide) hcN
  have hL : (ρ ++ [25])[hh2.1.length]? = some 25 := by rw [← hH.1]; simp
  have hm1 : (ρ ++ [25])[m]? = some 0 := app_at hm
  have ha1 : (ρ ++ [25])[ha]? = some 1 := app_at f2
  refine mE_dup 47 rfl rfl rfl ?_
  refine mE_aldn 48 rfl rfl rfl rfl ?_
  refine mE_gf 51 rfl rfl (mg_app2 c1) d1 rfl ?_
  refine mE_ildn 52 rfl rfl rfl rfl ?_
  refine mE_ildn 53 rfl rfl rfl rfl ?_
  obtain ⟨fN, n1, -, -⟩ := fld hH1 hL (show rI0 25 = some (.inl (4, rOf 25)) from rfl)
  refine mE_ci [.int c, .int x, .int y] [.ref hh2.1.length, .int c, .ref ha] rfl rfl rfl rfl n1 rfl ?_
  obtain ⟨r, h3, k3, rfl, hH3, hF3⟩ := r_houseInit hall (a := c) (b := x) (c := y) (h := (hh2.1 ++ [.inr (4, [.int 0, .int 0, .int 0, .int 0, .int 0, .int 0, .int 0, .int 0, .int 0, .int 0])], hh2.2 + 10)) hg hH1 hL
  refine ⟨_, _, k3, ?_⟩
  obtain ⟨fL, l1, -, -⟩ := fld hH3 hL (show rI0 25 = some (.inl (4, rOf 25)) from rfl)
  obtain ⟨cA, a1, qs, rfl, a2, a3⟩ := hH3.at ha1 (R := .inr (.inr (2, 12, 25, 2))) rfl
  have en : c.toNatClampNeg = (g 0).toNat := by
    show c.toInt.toNat = _
    rw [d2]
    congr 1
    omega
  have hnn : ¬ (c < 0 ∨ qs.length ≤ (g 0).toNat) := by
    rintro (q | q)
    · have := Int32.lt_iff_toInt_lt.mp q; omega
    · omega
  refine mE_qsa 57 (g 0).toNat rfl a1 l1 rfl en hnn rfl ?_
  have hH4 : okH rI0 g (ρ ++ [25]) (h3.1.set ha (.inl (2, .inr (qs.set (g 0).toNat (some hh2.1.length))))) := by
    refine hH3.set ha1 (R := .inr (.inr (2, 12, 25, 2))) rfl ⟨_, rfl, by rw [List.length_set]; exact a2, fun j q hj => ?_⟩
    by_cases he : (g 0).toNat = j
    · subst he
      rw [List.getElem?_set_self (by rw [a2]; omega)] at hj
      cases hj
      exact Or.inr ⟨_, rfl, hL⟩
    · rw [List.getElem?_set_ne he] at hj
      exact a3 j q hj
  obtain ⟨fs4, c4, c5, c6⟩ := fld hH4 hm1 rO_eq
  obtain ⟨v4, d3, c', rfl, d4⟩ := c6 10 (1, 0, 0) rfl
  have d4 : c'.toInt = g 0 + 0 := d4
  have d5 : (c' + 1).toInt = c'.toInt + 1 := by rw [add_id (by omega) (by omega), e1]
  have hl4 : 10 < fs4.length := (List.getElem?_eq_some_iff.mp d3).1
  have hlm : m < (h3.1.set ha (.inl (2, .inr (qs.set (g 0).toNat (some hh2.1.length))))).length := (List.getElem?_eq_some_iff.mp c4).1
  have hla : ha < h3.1.length := (List.getElem?_eq_some_iff.mp a1).1
  refine mE_aldn 58 rfl rfl rfl rfl ?_
  refine mE_dup 59 rfl rfl rfl ?_
  refine mE_gf 62 rfl rfl c4 d3 rfl ?_
  refine mE_ico 63 1 rfl rfl rfl ?_
  refine mE_iadd 64 (c' + 1) rfl rfl rfl ?_
  refine mE_pf 67 rfl c4 (by show (true && Nat.blt 10 fs4.length) = true; rw [Nat.blt_eq.mpr hl4]; rfl) rfl ?_
  refine mE_aldn 68 rfl rfl rfl rfl ?_
  refine mE_gf 71 rfl rfl (List.getElem?_set_self hlm) (List.getElem?_set_self hl4) rfl ?_
  refine mE_ico 72 1 rfl rfl rfl ?_
  refine mE_isub 73 (c' + 1 - 1) rfl rfl rfl ?_
  have d6 : (c' + 1 - 1).toInt = c'.toInt := by rw [sub_id (by omega) (by omega), d5, e1]; omega
  have hsp : aspk 0 = [0, 1] := by decide +kernel
  refine mE_iret rfl ⟨rfl, c' + 1 - 1, g 0 + 1, ρ ++ [25], rfl, ?_, Or.inl ⟨⟨hx, hy⟩, by omega, by omega, rfl⟩, Or.inr ⟨rfl, rfl, ?_⟩, ?_⟩
  · refine okH_pset hH4 hm1 rO_eq (j := 10) (p := 0) rfl rfl c4 (by omega) (fun k r R cc hne q1 q2 q3 q4 => ?_)
    have hr : r ∈ aspk 0 := aspk_ok q3 q4
    rw [hsp] at hr
    rcases List.mem_cons.mp hr with rfl | hr
    · exact absurd (one_of hH4 q1 hm1 (by decide)) hne
    · rcases List.mem_cons.mp hr with rfl | hr
      · have q3 : some ((.inr (.inr (2, 12, 25, 2))) : aR) = some R := q3
        cases q3
        have hka : k = ha := one_of hH4 q1 ha1 (by decide)
        subst hka
        rw [List.getElem?_set_self hla] at q2
        cases q2
        refine ⟨_, rfl, by rw [List.length_set]; exact a2, fun j q hj => ?_⟩
        by_cases he : (g 0).toNat = j
        · subst he
          rw [List.getElem?_set_self (by rw [a2]; omega)] at hj
          cases hj
          exact Or.inr ⟨_, rfl, hL⟩
        · rw [List.getElem?_set_ne he] at hj
          rcases a3 j q hj with ⟨z1, z2⟩ | z
          · refine Or.inl ⟨z1, ?_⟩
            have z2 : g 0 ≤ (j : Int) := z2
            show gup g 0 (g 0 + 1) 0 ≤ (j : Int)
            rw [gup_self]
            omega
          · exact Or.inr z
      · cases hr
  · show h3.2 = hh2.2 + 10
    rw [hF3.2.1]
  · intro k r q1 q2
    have hk1 : (ρ ++ [25])[k]? = some r := app_at q1
    have hkl : k < hh2.1.length := by rw [← hH.1]; exact (List.getElem?_eq_some_iff.mp q1).1
    have nm : m ≠ k := fun e => q2 (by subst e; rw [hm] at q1; cases q1; decide)
    have na : ha ≠ k := fun e => q2 (by subst e; rw [f2] at q1; cases q1; decide)
    show (((h3.1.set ha _)).set m _)[k]? = _
    rw [List.getElem?_set_ne nm, List.getElem?_set_ne na]
    rw [hF3.1 k r hk1 (fun z => q2 (by rcases List.mem_cons.mp z with rfl | z; decide; cases z))]
    exact List.getElem?_append_left hkl
theorem okG10 {g : Nat → Int} (hg : okG aBl g) (h7 : g 10 ≤ 11) : okG aBl10 g := by
  intro p q hq
  by_cases hp : p = 10
  · subst hp
    have hq : some ((0, 11) : Int × Int) = some q := hq
    cases hq
    have := hg 10 (0, 12) rfl
    exact ⟨this.1, h7⟩
  · unfold aBl10 at hq
    rw [List.getElem?_set_ne (fun e => hp e.symm)] at hq
    exact hg p q hq
theorem okG10_12 : ∀ g, okG aBl10 g → okG aBl g := by
  intro g hg p q hq
  by_cases hp : p = 10
  · subst hp
    have hq : some ((0, 12) : Int × Int) = some q := hq
    cases hq
    have := hg 10 (0, 11) rfl
    have h1 : 0 ≤ g 10 := this.1
    have h2 : g 10 ≤ 11 := this.2
    exact ⟨h1, by show g 10 ≤ 12; omega⟩
  · refine hg p q ?_
    unfold aBl10
    rw [List.getElem?_set_ne (fun e => hp e.symm)]
    exact hq
set_option maxRecDepth 10000 in
set_option maxHeartbeats 1000000 in
theorem t_Mhouse {d : Nat} (hall : CTall ci_early (d + 1)) {g : Nat → Int} {ρ : List Nat} {m : Nat} {x y : Int32} {h : mS} (hg : okG aBl g) (hH : okH rI0 g ρ h.1) (hm : ρ[m]? = some 30) : mR (d + 2) 128 [.ref m, .int x, .int y] h (fun r h' => ∃ (v : Int32) (w : Int), r = some (.int v) ∧ okH rI0 (gup g 10 w) ρ h'.1 ∧ hW (g 10) x y v w ∧ okFr ρ [30, 32, 33] h h') := by
  have hg0 := hg 10 (0, 12) rfl
  have hg0 : 0 ≤ g 10 ∧ g 10 ≤ 12 := hg0
  have e0 : (0 : Int32).toInt = 0 := by decide
  have e1 : (1 : Int32).toInt = 1 := by decide
  have e9 : (9 : Int32).toInt = 9 := by decide
  have e12 : (12 : Int32).toInt = 12 := by decide
  have e10000 : (10000 : Int32).toInt = 10000 := by decide
  obtain ⟨fs, c1, c2, c3⟩ := fld hH hm rM_eq
  obtain ⟨v10, d1, c, rfl, d2⟩ := c3 9 (1, 10, 0) rfl
  have d2 : c.toInt = g 10 + 0 := d2
  have stay : ∀ v : Int32, hW (g 10) x y v (g 10) → ∃ (v' : Int32) (w : Int), some (Value.int v) = some (.int v') ∧ okH rI0 (gup g 10 w) ρ h.1 ∧ hW (g 10) x y v' w ∧ okFr ρ [30, 32, 33] h h := fun v hv => ⟨v, g 10, rfl, by rw [gup_same]; exact hH, hv, okFr.rfl⟩
  have no : ∀ b : Nat, ¬ hOk x y → mE (mcall (d + 1)) none 3 (mgd 72 mtX11_house) (b + 2) (21, [(0, .ref m), (1, .int x), (2, .int y)], [], h) (fun r h' => mretok (some .int) r = true ∧ ∃ (v : Int32) (w : Int), r = some (.int v) ∧ okH rI0 (gup g 10 w) ρ h'.1 ∧ hW (g 10) x y v w ∧ okFr ρ [30, 32, 33] h h') := by
    intro b hn
    refine mE_ico 22 (-1) rfl rfl rfl ?_
    exact mE_iret rfl ⟨rfl, stay (-1) (Or.inr (Or.inr ⟨hn, rfl, rfl⟩))⟩
  refine mR_ix [(0, .ref m), (1, .int x), (2, .int y)] rfl rfl rfl ?_
  refine mE_ildn 1 rfl rfl rfl rfl ?_
  refine mE_ico 2 0 rfl rfl rfl ?_
  refine mE_sip 5 10000 rfl rfl rfl ?_
  refine mE_cs [.int x, .int 0, .int 10000] [] rfl rfl rfl rfl rfl ?_
  obtain ⟨r, hh, k1, rfl, e9h⟩ := r_Mwithin d x 0 10000 h
  subst e9h
  refine ⟨_, _, k1, ?_⟩
  refine mE_if_eq rfl (fun hx => ?_) (fun hx => ?_)
  · have hx := bit0_iff.mp hx
    rw [within_iff, e0, e10000] at hx
    exact mE_le (no 0 (fun q => hx q.1)) (Nat.le_of_ble_eq_true rfl)
  have hx := Classical.not_not.mp (fun q => hx (bit0_iff.mpr q))
  rw [within_iff, e0, e10000] at hx
  refine mE_ildn 12 rfl rfl rfl rfl ?_
  refine mE_ico 13 0 rfl rfl rfl ?_
  refine mE_bip 15 9 rfl rfl rfl ?_
  refine mE_cs [.int y, .int 0, .int 9] [] rfl rfl rfl rfl rfl ?_
  obtain ⟨r, hh2, k2, rfl, e9h2⟩ := r_Mwithin d y 0 9 hh
  subst e9h2
  refine ⟨_, _, k2, ?_⟩
  refine mE_if_ne rfl (fun hy => ?_) (fun hy => ?_)
  rotate_left
  · have hy := bit0_iff.mp (Classical.not_not.mp hy)
    rw [within_iff, e0, e9] at hy
    exact mE_le (no 0 (fun q => hy q.2)) (Nat.le_of_ble_eq_true rfl)
  have hy := Classical.not_not.mp (fun q => hy (bit0_iff.mpr q))
  rw [within_iff, e0, e9] at hy
  refine mE_aldn 24 rfl rfl rfl rfl ?_
  refine mE_gf 27 rfl rfl c1 d1 rfl ?_
  refine mE_bip 29 12 rfl rfl rfl ?_
  refine mE_ic_ne rfl (fun hc => ?_) (fun hc => ?_)
  rotate_left
  · have hc := Classical.not_not.mp hc
    refine mE_bip 34 (-2) rfl rfl rfl ?_
    exact mE_iret rfl ⟨rfl, stay (-2) (Or.inr (Or.inl ⟨⟨hx, hy⟩, by rw [hc, e12] at d2; omega, rfl, rfl⟩))⟩
  have hc : g 10 ≤ 11 := by
    rcases Int.lt_or_le (g 10) 12 with q | q
    · omega
    · exact absurd (Int32.toInt_inj.mp (show c.toInt = (12 : Int32).toInt by omega)) hc
  have hex : ∀ (pc : Nat) (A : aAn) (mm : Int), anaf sMh pc = some A → pc ∈ [55] → Gs rI0 g ρ [32, 33] hh2 (d + 1) 3 (mgd 72 mtX11_house) (fun r h' => mretok (some .int) r = true ∧ ∃ (v : Int32) (w : Int), r = some (.int v) ∧ okH rI0 (gup g 10 w) ρ h'.1 ∧ hW (g 10) x y v w ∧ okFr ρ [30, 32, 33] hh2 h') 0 mm (pc, A) := by
    intro pc A mm hA hpc
    rcases List.mem_cons.mp hpc with rfl | hpc
    rotate_left
    · cases hpc
    rw [sMh_e55] at hA
    cases hA
    intro lv st h2 hS _
    have hst := hS.2.2.1.nil
    subst hst
    obtain ⟨v, q1, k, rfl, q3⟩ := hS.2.1.get (x := 0) (t := (3, 30, 0)) rfl
    have q1 : mget lv 0 = some (.ref k) := q1
    have q3 : ρ[k]? = some 30 := q3
    obtain ⟨fs4, c4, c5, c6⟩ := fld hS.1 q3 rM_eq
    obtain ⟨v4, d3, c', rfl, d4⟩ := c6 9 (1, 10, 0) rfl
    have d4 : c'.toInt = g 10 + 0 := d4
    have d5 : (c' + 1).toInt = c'.toInt + 1 := by rw [add_id (by omega) (by omega), e1]
    have hl4 : 9 < fs4.length := (List.getElem?_eq_some_iff.mp d3).1
    have hlm : k < h2.1.length := (List.getElem?_eq_some_iff.mp c4).1
    have d6 : (c' + 1 - 1).toInt = c'.toInt := by rw [sub_id (by omega) (by omega), d5, e1]; omega
    refine ⟨400, Int.le_refl _, ?_⟩
    refine mE_aldn 56 rfl q1 rfl rfl ?_
    refine mE_dup 57 rfl rfl rfl ?_
    refine mE_gf 60 rfl rfl c4 d3 rfl ?_
    refine mE_ico 61 1 rfl rfl rfl ?_
    refine mE_iadd 62 (c' + 1) rfl rfl rfl ?_
    refine mE_pf 65 rfl c4 (by show (true && Nat.blt 9 fs4.length) = true; rw [Nat.blt_eq.mpr hl4]; rfl) rfl ?_
    refine mE_aldn 66 rfl q1 rfl rfl ?_
    refine mE_gf 69 rfl rfl (List.getElem?_set_self hlm) (List.getElem?_set_self hl4) rfl ?_
    refine mE_ico 70 1 rfl rfl rfl ?_
    refine mE_isub 71 (c' + 1 - 1) rfl rfl rfl ?_
    exact mE_iret rfl ⟨rfl, c' + 1 - 1, g 10 + 1, rfl, okH_pset1 sp10 (by decide) hS.1 q3 rM_eq (j := 9) rfl rfl c4 (by omega), Or.inl ⟨⟨hx, hy⟩, by omega, by omega, rfl⟩, (hS.2.2.2.2.mono rfl).trans (okFr.set okFr.rfl q3 (by decide))⟩
  have G := seg_ok (rt := some (7, 0, 0)) (Int.le_refl 0) (okG10 hg hc) (fun i q hq => (hall i q hq).nar okG10_12) (fun r h' _ _ q => elimT q) sMh_k hex
  obtain ⟨n, hn, kE⟩ := G _ 35 _ sMh_e35 [(0, .ref m), (1, .int x), (2, .int y)] [] hh2 ⟨hH, okL.cons (v := .ref m) rfl ⟨m, rfl, hm⟩ (okL.cons (v := .int x) rfl (a32_ok x) (okL.cons (v := .int y) rfl (a32_ok y) okL.nil)), trivial, lvall _ rfl, okFr.rfl⟩ (Int.le_refl _)
  have hn : (n : Int) ≤ 412 + 0 + 0 := hn
  exact mE_le kE (by show n ≤ 999999999986; omega)
