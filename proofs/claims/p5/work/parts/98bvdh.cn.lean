/-! the reference's exchanges leave how many strips a house has -/
def RMs (h : List mC) (S : Int32) : Prop := ∃ fM, h[47]? = some (.inr (11, fM)) ∧ fM[21]? = some (.int S) ∧ fM[12]? = some (.ref 58)
def CN (S : Nat) (h h' : List mC) : Prop := (∀ c, c ≠ 58 → h'[c]? = h[c]?) ∧ ∀ OW, h[58]? = some (cAr OW) → ∃ OW', h'[58]? = some (cAr OW') ∧ ∀ k, cntS OW' S k = cntS OW S k
theorem CN_rfl {S : Nat} {h : List mC} : CN S h h := ⟨fun _ _ => rfl, fun OW e => ⟨OW, e, fun _ => rfl⟩⟩
theorem CN.tr {S : Nat} {a b c : List mC} (p : CN S a b) (q : CN S b c) : CN S a c := ⟨fun x hx => (q.1 x hx).trans (p.1 x hx), fun OW e => by
  obtain ⟨O1, e1, k1⟩ := p.2 OW e
  obtain ⟨O2, e2, k2⟩ := q.2 O1 e1
  exact ⟨O2, e2, fun k => (k2 k).trans (k1 k)⟩⟩
theorem RMs.cn {S : Int32} {n : Nat} {a b : List mC} (p : RMs a S) (q : CN n a b) : RMs b S := by
  obtain ⟨fM, a1, a2, a3⟩ := p
  exact ⟨fM, (q.1 47 (by decide)).trans a1, a2, a3⟩
theorem cnt_swap {OW : List Int32} {S a b : Nat} {x y : Int32} (ha : a < S) (hb : b < S) (ea : OW[a]? = some x) (eb : OW[b]? = some y) (k : Int32) : cntS ((OW.set a y).set b x) S k = cntS OW S k := by
  unfold cntS
  rw [List.take_set, List.take_set]
  obtain ⟨la, ea⟩ := List.getElem?_eq_some_iff.mp ea
  obtain ⟨lb, eb⟩ := List.getElem?_eq_some_iff.mp eb
  have la' : a < (OW.take S).length := by rw [List.length_take]; omega
  have lb' : b < (OW.take S).length := by rw [List.length_take]; omega
  have e1 : (OW.take S)[a]'la' = x := by rw [List.getElem_take]; exact ea
  have e2 : (OW.take S)[b]'lb' = y := by rw [List.getElem_take]; exact eb
  rw [← e1, ← e2]
  exact (List.set_set_perm la' lb').count_eq k
theorem clamp_lt {i : Int32} {S : Int32} (h0 : 0 ≤ i.toInt) (h1 : i.toInt < S.toInt) : i.toNatClampNeg < S.toInt.toNat := by
  have : i.toNatClampNeg = i.toInt.toNat := rfl
  omega
set_option maxRecDepth 10000 in
theorem w_change {d : Nat} {a b S : Int32} {h h' : mS} {r : Option Value} (hR : RMs h.1 S) (a1 : a.toInt < S.toInt) (b1 : b.toInt < S.toInt) (e : mcall (d + 1) 153 [.ref 47, .int a, .int b] h = some (r, h')) : CN S.toInt.toNat h.1 h'.1 := by
  obtain ⟨fM, m1, m2, m3⟩ := hR
  refine Q_call (P := fun r h' => CN S.toInt.toNat h.1 h'.1) rfl e (fun ha => ?_)
  refine Q_a rfl rfl ?_
  refine Q_g rfl rfl m1 m3 ?_
  refine Q_i rfl rfl ?_
  refine Q_ia rfl (fun i c OW x ei ec hc i0 hx => ?_)
  cases ei
  cases ec
  refine Q_st rfl (lva_all _ _ ha) (fun lv g3 gj gl => ?_)
  have g0 : mget lv 0 = some (.ref 47) := gj 0 (by decide)
  have g1 : mget lv 1 = some (.int a) := gj 1 (by decide)
  have g2 : mget lv 2 = some (.int b) := gj 2 (by decide)
  have g3 : mget lv 3 = some (.int x) := g3
  refine Q_a rfl g0 ?_
  refine Q_g rfl rfl m1 m3 ?_
  refine Q_i rfl g1 ?_
  refine Q_a rfl g0 ?_
  refine Q_g rfl rfl m1 m3 ?_
  refine Q_i rfl g2 ?_
  refine Q_ia rfl (fun i c OW' y ei ec hc' j0 hy => ?_)
  cases ei
  cases ec
  rw [hc] at hc'
  cases hc'
  refine Q_ias rfl (fun x' i c OW' ex ei ec hc' _ _ => ?_)
  cases ex
  cases ei
  cases ec
  rw [hc] at hc'
  cases hc'
  have l58 : 58 < h.1.length := (List.getElem?_eq_some_iff.mp hc).1
  have m1' : (h.1.set 58 (.inl (0, .inl (OW.set a.toNatClampNeg y))))[47]? = some (.inr (11, fM)) := by rw [List.getElem?_set_ne (by decide)]; exact m1
  refine Q_a rfl g0 ?_
  refine Q_g rfl rfl m1' m3 ?_
  refine Q_i rfl g2 ?_
  refine Q_i rfl g3 ?_
  refine Q_ias rfl (fun x' i c OW' ex ei ec hc' _ _ => ?_)
  cases ex
  cases ei
  cases ec
  dsimp only at hc'
  rw [List.getElem?_set_self l58] at hc'
  cases hc'
  refine Q_ret rfl (fun r => ⟨?_, ?_⟩)
  · intro c hc
    dsimp only
    rw [List.set_set, List.getElem?_set_ne (fun e => hc e.symm)]
  · intro OW2 e2
    rw [hc] at e2
    cases e2
    dsimp only
    rw [List.set_set, List.getElem?_set_self l58]
    exact ⟨_, rfl, fun k => cnt_swap (clamp_lt i0 a1) (clamp_lt j0 b1) hx hy k⟩
set_option maxRecDepth 10000 in
theorem w_isStrip {d : Nat} {a S : Int32} {h h' : mS} {r : Option Value} (hR : RMs h.1 S) (e : mcall (d + 1) 107 [.ref 47, .int a] h = some (r, h')) : ∃ v : Int32, r = some (.int v) ∧ (v ≠ 0 → 0 ≤ a.toInt ∧ a.toInt < S.toInt) := by
  obtain ⟨fM, m1, m2, m3⟩ := hR
  refine Q_call (P := fun r h' => ∃ v : Int32, r = some (.int v) ∧ (v ≠ 0 → 0 ≤ a.toInt ∧ a.toInt < S.toInt)) rfl e (fun ha => ?_)
  refine Q_i rfl rfl ?_
  refine Q_if_lt rfl (fun y ey _ => ?_) (fun y ey hy => ?_)
  · refine Q_ico rfl ?_
    refine Q_irt rfl (fun x ex _ => ⟨x, rfl, fun q => ?_⟩)
    cases ex
    exact absurd rfl q
  · cases ey
    refine Q_i rfl rfl ?_
    refine Q_a rfl rfl ?_
    refine Q_g rfl rfl m1 m2 ?_
    refine Q_ic_ge rfl (fun y z _ _ _ => ?_) (fun y z ey ez hlt => ?_)
    · refine Q_ico rfl ?_
      refine Q_irt rfl (fun x ex _ => ⟨x, rfl, fun q => ?_⟩)
      cases ex
      exact absurd rfl q
    · cases ey
      cases ez
      refine Q_ico rfl ?_
      refine Q_go rfl ?_
      refine Q_irt rfl (fun x ex _ => ⟨x, rfl, fun q => ?_⟩)
      have h1 := Int32.le_iff_toInt_le.mp (Int32.not_lt.mp hy)
      have h2 := Int32.lt_iff_toInt_lt.mp (Int32.not_le.mp hlt)
      have e0 : (0 : Int32).toInt = 0 := by decide
      omega
set_option maxRecDepth 10000 in
theorem w_xch {d : Nat} {a b S : Int32} {h h' : mS} {r : Option Value} (hR : RMs h.1 S) (a1 : a.toInt < S.toInt) (b1 : b.toInt < S.toInt) (e : mcall (d + 2) 154 [.ref 47, .int a, .int b] h = some (r, h')) : CN S.toInt.toNat h.1 h'.1 := by
  have hR' := hR
  obtain ⟨fM, m1, m2, m3⟩ := hR
  refine Q_call (P := fun r h' => CN S.toInt.toNat h.1 h'.1) rfl e (fun ha => ?_)
  refine Q_a rfl rfl ?_
  refine Q_gf rfl rfl (fun _ _ _ _ _ _ => ?_)
  refine Q_i rfl rfl ?_
  refine Q_ba rfl (fun _ => ?_)
  have no : mPq mfuel (mcall (d + 1)) 3 (mgd 77 mtX11_exchange) (33, lv_args 0 [.ref 47, .int a, .int b], [], h) (fun r h' => CN S.toInt.toNat h.1 h'.1) := by
    refine Q_ico rfl ?_
    exact Q_iret rfl (fun _ => CN_rfl)
  refine Q_if_ne rfl (fun _ _ _ => no) (fun _ _ _ => ?_)
  refine Q_a rfl rfl ?_
  refine Q_gf rfl rfl (fun _ _ _ _ _ _ => ?_)
  refine Q_i rfl rfl ?_
  refine Q_ba rfl (fun _ => ?_)
  refine Q_if_ne rfl (fun _ _ _ => no) (fun _ _ _ => ?_)
  refine Q_a rfl rfl ?_
  refine Q_gf rfl rfl (fun _ _ _ _ _ _ => ?_)
  refine Q_i rfl rfl ?_
  refine Q_ia rfl (fun _ _ _ _ _ _ _ _ _ => ?_)
  refine Q_a rfl rfl ?_
  refine Q_gf rfl rfl (fun _ _ _ _ _ _ => ?_)
  refine Q_i rfl rfl ?_
  refine Q_ia rfl (fun _ _ _ _ _ _ _ _ _ => ?_)
  refine Q_ic_ne rfl (fun _ _ _ _ _ => ?_) (fun _ _ _ _ _ => no)
  refine Q_a rfl rfl ?_
  refine Q_i rfl rfl ?_
  refine Q_i rfl rfl ?_
  refine Q_cv [.int a, .int b] (.ref 47) [] rfl rfl rfl rfl (fun r1 h1 e1 => ?_)
  have c1 := w_change hR' a1 b1 e1
  have hR1 := hR'.cn c1
  have := ret_0 (ret_ok rfl e1)
  subst this
  clear e1
  have back : mPq mfuel (mcall (d + 1)) 3 (mgd 77 mtX11_exchange) (69, lv_args 0 [.ref 47, .int a, .int b], [], h1) (fun r h' => CN S.toInt.toNat h.1 h'.1) := by
    refine Q_a rfl rfl ?_
    refine Q_i rfl rfl ?_
    refine Q_i rfl rfl ?_
    refine Q_cv [.int a, .int b] (.ref 47) _ rfl rfl rfl rfl (fun r2 h2 e2 => ?_)
    refine Q_ico rfl ?_
    exact Q_iret rfl (fun _ => c1.tr (w_change hR1 a1 b1 e2))
  refine Q_a rfl rfl ?_
  refine Q_a rfl rfl ?_
  refine Q_gf rfl rfl (fun _ _ _ _ _ _ => ?_)
  refine Q_i rfl rfl ?_
  refine Q_ia rfl (fun _ _ _ y _ _ _ _ _ => ?_)
  refine Q_cv [.int y] (.ref 47) _ rfl rfl rfl rfl (fun r2 h2 e2 => ?_)
  have := ro_call rfl e2
  subst this
  obtain ⟨z, rfl⟩ := ret_b (ret_ok rfl e2)
  refine Q_if_eq rfl (fun _ _ _ => back) (fun _ _ _ => ?_)
  refine Q_a rfl rfl ?_
  refine Q_a rfl rfl ?_
  refine Q_gf rfl rfl (fun _ _ _ _ _ _ => ?_)
  refine Q_i rfl rfl ?_
  refine Q_ia rfl (fun _ _ _ y _ _ _ _ _ => ?_)
  refine Q_cv [.int y] (.ref 47) _ rfl rfl rfl rfl (fun r3 h3 e3 => ?_)
  have := ro_call rfl e3
  subst this
  obtain ⟨z, rfl⟩ := ret_b (ret_ok rfl e3)
  refine Q_if_eq rfl (fun _ _ _ => back) (fun _ _ _ => ?_)
  refine Q_ico rfl ?_
  exact Q_iret rfl (fun _ => c1)
set_option maxRecDepth 10000 in
theorem w_Mswap {d : Nat} {a b S : Int32} {h h' : mS} {r : Option Value} (hR : RMs h.1 S) (e : mcall (d + 3) 155 [.ref 47, .int a, .int b] h = some (r, h')) : CN S.toInt.toNat h.1 h'.1 := by
  refine Q_call (P := fun r h' => CN S.toInt.toNat h.1 h'.1) rfl e (fun ha => ?_)
  have no : mPq mfuel (mcall (d + 2)) 3 (mgd 54 mtX11_swap) (31, lv_args 0 [.ref 47, .int a, .int b], [], h) (fun r h' => CN S.toInt.toNat h.1 h'.1) := by
    refine Q_ico rfl ?_
    exact Q_iret rfl (fun _ => CN_rfl)
  refine Q_a rfl rfl ?_
  refine Q_i rfl rfl ?_
  refine Q_cv [.int a] (.ref 47) [] rfl rfl rfl rfl (fun r1 h1 e1 => ?_)
  have := ro_call rfl e1
  subst this
  obtain ⟨v1, rfl, k1⟩ := w_isStrip hR e1
  refine Q_if_eq rfl (fun _ _ _ => no) (fun x ex hx => ?_)
  cases ex
  have a1 := (k1 hx).2
  refine Q_a rfl rfl ?_
  refine Q_i rfl rfl ?_
  refine Q_cv [.int b] (.ref 47) [] rfl rfl rfl rfl (fun r2 h2 e2 => ?_)
  have := ro_call rfl e2
  subst this
  obtain ⟨v2, rfl, k2⟩ := w_isStrip hR e2
  refine Q_if_eq rfl (fun _ _ _ => no) (fun x ex hx => ?_)
  cases ex
  have b1 := (k2 hx).2
  refine Q_a rfl rfl ?_
  refine Q_gf rfl rfl (fun _ _ _ _ _ _ => ?_)
  refine Q_i rfl rfl ?_
  refine Q_ia rfl (fun _ _ _ _ _ _ _ _ _ => ?_)
  refine Q_a rfl rfl ?_
  refine Q_gf rfl rfl (fun _ _ _ _ _ _ => ?_)
  refine Q_i rfl rfl ?_
  refine Q_ia rfl (fun _ _ _ _ _ _ _ _ _ => ?_)
  refine Q_ic_ne rfl (fun _ _ _ _ _ => ?_) (fun _ _ _ _ _ => no)
  refine Q_a rfl rfl ?_
  refine Q_i rfl rfl ?_
  refine Q_i rfl rfl ?_
  refine Q_cv [.int a, .int b] (.ref 47) [] rfl rfl rfl rfl (fun r3 h3 e3 => ?_)
  have c1 := w_xch hR a1 b1 e3
  obtain ⟨z, rfl⟩ := ret_b (ret_ok rfl e3)
  refine Q_if_eq rfl (fun _ _ _ => ?_) (fun _ _ _ => ?_)
  · refine Q_bip rfl ?_
    exact Q_iret rfl (fun _ => c1)
  · refine Q_a rfl rfl ?_
    refine Q_ico rfl ?_
    refine Q_ico rfl ?_
    refine Q_cv [.int (-1), .int (-1)] (.ref 47) [] rfl rfl rfl rfl (fun r4 h4 e4 => ?_)
    have := ro_call rfl e4
    subst this
    refine Q_go rfl ?_
    exact Q_iret rfl (fun _ => c1)
set_option maxRecDepth 10000 in
theorem w_betters {d : Nat} {S : Int32} {h h' : mS} {r : Option Value} (hR : RMs h.1 S) (e : mcall (d + 3) 156 [.ref 47] h = some (r, h')) : CN S.toInt.toNat h.1 h'.1 := by
  let P : Option Value → mS → Prop := fun r h' => CN S.toInt.toNat h.1 h'.1
  have key : ∀ (nn : Nat) (h2 : mS) (lv : mL), CN S.toInt.toNat h.1 h2.1 → (∀ q ∈ lv, mone q.2 = true) → mget lv 0 = some (.ref 47) → (∀ a : Int32, mget lv 2 = some (.int a) → mPq nn (mcall (d + 2)) 4 (mgd 70 mtX11_betters) (9, lv, [], h2) P) ∧ (∀ a b : Int32, mget lv 2 = some (.int a) → a.toInt < S.toInt → mget lv 3 = some (.int b) → mPq nn (mcall (d + 2)) 4 (mgd 70 mtX11_betters) (21, lv, [], h2) P) := by
    intro nn
    induction nn using Nat.strongRecOn with
    | ind nn ih =>
      intro h2 lv hC hl g0
      obtain ⟨fM, m1, m2, m3⟩ := hR.cn hC
      have hR2 := hR.cn hC
      refine ⟨fun a g2 => ?_, fun a b g2 a1 g3 => ?_⟩
      · refine Q_iS rfl g2 (fun mm hm => ?_)
        refine Q_a rfl g0 ?_
        refine Q_g rfl rfl m1 m2 ?_
        refine Q_ic_ge rfl (fun _ _ _ _ _ => ?_) (fun x y ex ey hlt => ?_)
        · refine Q_ico rfl ?_
          exact Q_iret rfl (fun _ => hC)
        · cases ex
          cases ey
          have hlt := Int32.lt_iff_toInt_lt.mp (Int32.not_le.mp hlt)
          refine Q_i rfl g2 ?_
          refine Q_ico rfl ?_
          refine Q_bin rfl rfl (fun x y _ _ => ?_)
          refine Q_st rfl hl (fun lv' e3 ej el => ?_)
          exact (ih mm hm h2 lv' hC el ((ej 0 (by decide)).trans g0)).2 a _ ((ej 2 (by decide)).trans g2) hlt e3
      · refine Q_iS rfl g3 (fun mm hm => ?_)
        refine Q_a rfl g0 ?_
        refine Q_g rfl rfl m1 m2 ?_
        refine Q_ic_ge rfl (fun _ _ _ _ _ => ?_) (fun x y ex ey hlt => ?_)
        · refine Q_inc rfl g2 hl (fun lv' e2 ej el => ?_)
          refine Q_go rfl ?_
          exact (ih mm hm h2 lv' hC el ((ej 0 (by decide)).trans g0)).1 _ e2
        · cases ex
          cases ey
          have b1 := Int32.lt_iff_toInt_lt.mp (Int32.not_le.mp hlt)
          have nxt : ∀ h4 : mS, CN S.toInt.toNat h.1 h4.1 → mPq mm (mcall (d + 2)) 4 (mgd 70 mtX11_betters) (56, lv, [], h4) P := by
            intro h4 hC4
            refine Q_inc rfl g3 hl (fun lv' e3 ej el => ?_)
            refine Q_go rfl ?_
            exact (ih mm hm h4 lv' hC4 el ((ej 0 (by decide)).trans g0)).2 a _ ((ej 2 (by decide)).trans g2) a1 e3
          refine Q_a rfl g0 ?_
          refine Q_i rfl g2 ?_
          refine Q_i rfl g3 ?_
          refine Q_cv [.int a, .int b] (.ref 47) [] rfl rfl rfl rfl (fun r3 h3 e3 => ?_)
          have c1 := w_xch hR2 a1 b1 e3
          obtain ⟨z, rfl⟩ := ret_b (ret_ok rfl e3)
          refine Q_if_eq rfl (fun _ _ _ => nxt h3 (hC.tr c1)) (fun _ _ _ => ?_)
          refine Q_a rfl g0 ?_
          refine Q_ico rfl ?_
          refine Q_ico rfl ?_
          refine Q_cv [.int (-1), .int (-1)] (.ref 47) [] rfl rfl rfl rfl (fun r4 h4 e4 => ?_)
          have := ro_call rfl e4
          subst this
          obtain ⟨z, rfl⟩ := ret_i (ret_ok rfl e4)
          clear e4
          cases hg1 : mget lv 1 with
          | none =>
            refine Q_step (x := (.iload_n 1, 1, 0, 0, 0, 0)) rfl (fun o ho => ?_)
            have ho : mld misint 1 (44 + 1) lv _ _ = some o := ho
            unfold mld at ho
            rw [hg1] at ho
            cases ho
          | some v1 =>
            refine Q_i rfl hg1 ?_
            refine Q_ic_ge rfl (fun _ _ _ _ _ => ?_) (fun _ _ _ _ _ => ?_)
            · refine Q_a rfl g0 ?_
              refine Q_i rfl g2 ?_
              refine Q_i rfl g3 ?_
              refine Q_cv [.int a, .int b] (.ref 47) [] rfl rfl rfl rfl (fun r5 h5 e5 => ?_)
              have c2 := w_change (hR2.cn c1) a1 b1 e5
              have := ret_0 (ret_ok rfl e5)
              subst this
              exact nxt h5 ((hC.tr c1).tr c2)
            · refine Q_ico rfl ?_
              exact Q_iret rfl (fun _ => hC.tr c1)
  refine Q_call (P := P) rfl e (fun ha => ?_)
  refine Q_a rfl rfl ?_
  refine Q_ico rfl ?_
  refine Q_ico rfl ?_
  refine Q_cv [.int (-1), .int (-1)] (.ref 47) [] rfl rfl rfl rfl (fun r4 h4 e4 => ?_)
  have := ro_call rfl e4
  subst this
  obtain ⟨z, rfl⟩ := ret_i (ret_ok rfl e4)
  refine Q_st rfl (lva_all _ _ ha) (fun lv1 e1 ej el => ?_)
  refine Q_ico rfl ?_
  refine Q_st rfl el (fun lv2 f2 fj fl => ?_)
  exact (key mfuel h4 lv2 CN_rfl fl ((fj 0 (by decide)).trans (ej 0 (by decide)))).1 _ f2
set_option maxRecDepth 10000 in
theorem w_Mbetter {d : Nat} {S : Int32} {h h' : mS} {r : Option Value} (hR : RMs h.1 S) (e : mcall (d + 4) 157 [.ref 47] h = some (r, h')) : CN S.toInt.toNat h.1 h'.1 := by
  let P : Option Value → mS → Prop := fun r h' => CN S.toInt.toNat h.1 h'.1
  have key : ∀ (nn : Nat) (h2 : mS) (lv : mL) (x : Int32), CN S.toInt.toNat h.1 h2.1 → (∀ q ∈ lv, mone q.2 = true) → mget lv 0 = some (.ref 47) → mget lv 1 = some (.int x) → mPq nn (mcall (d + 3)) 2 (mgd 17 mtX11_better) (2, lv, [], h2) P := by
    intro nn
    induction nn using Nat.strongRecOn with
    | ind nn ih =>
      intro h2 lv x hC hl g0 g1
      refine Q_aS rfl g0 (fun mm hm => ?_)
      refine Q_cv [] (.ref 47) [] rfl rfl rfl rfl (fun r4 h4 e4 => ?_)
      have c1 := w_betters (hR.cn hC) e4
      obtain ⟨z, rfl⟩ := ret_b (ret_ok rfl e4)
      refine Q_if_eq rfl (fun _ _ _ => ?_) (fun _ _ _ => ?_)
      · refine Q_i rfl g1 ?_
        exact Q_iret rfl (fun _ => hC.tr c1)
      · refine Q_inc rfl g1 hl (fun lv' e1 ej el => ?_)
        refine Q_go rfl ?_
        exact ih mm hm h4 lv' _ (hC.tr c1) el ((ej 0 (by decide)).trans g0) e1
  refine Q_call (P := P) rfl e (fun ha => ?_)
  refine Q_ico rfl ?_
  refine Q_st rfl (lva_all _ _ ha) (fun lv1 e1 ej el => ?_)
  exact key mfuel h lv1 _ CN_rfl el (ej 0 (by decide)) e1
