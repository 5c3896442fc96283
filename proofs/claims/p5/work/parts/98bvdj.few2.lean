theorem RFs.put {a : List mC} {fM : List Value} {v : Value} (m1 : a[47]? = some (.inr (11, fM))) (m12 : fM[12]? = some (.ref 58)) (m40 : fM[40]? = some (.ref 76)) (m41 : fM[41]? = some (.ref 77)) : RFs (a.set 47 (.inr (11, fM.set 42 v))) := by
  refine ⟨fM.set 42 v, List.getElem?_set_self (List.getElem?_eq_some_iff.mp m1).1, ?_, ?_, ?_⟩
  · rw [List.getElem?_set_ne (by decide)]; exact m12
  · rw [List.getElem?_set_ne (by decide)]; exact m40
  · rw [List.getElem?_set_ne (by decide)]; exact m41
def FN (h h' : List mC) : Prop := ∀ c, c ≠ 47 → c ≠ 76 → c ≠ 77 → h'[c]? = h[c]?
theorem FN.set {a b : List mC} {k : Nat} {v : mC} (p : FN a b) (hk : k = 47 ∨ k = 76 ∨ k = 77) : FN a (b.set k v) := by
  intro c q1 q2 q3
  rw [List.getElem?_set_ne (by omega)]
  exact p c q1 q2 q3
set_option maxRecDepth 10000 in
set_option maxHeartbeats 1000000 in
theorem w_Mfewest {d : Nat} {x : Int32} {h h' : mS} {r : Option Value} (hR : RFs h.1) (e : mcall (d + 1) 159 [.ref 47, .int x] h = some (r, h')) : FN h.1 h'.1 := by
  let P : Option Value → mS → Prop := fun r h' => FN h.1 h'.1
  have fin : ∀ (nn : Nat) (h2 : mS) (lv : mL), (∀ q ∈ lv, mone q.2 = true) → RFs h2.1 → FN h.1 h2.1 → mget lv 0 = some (.ref 47) → mget lv 1 = some (.int x) → mPq nn (mcall d) 5 (mgd 200 mtX11_fewest) (172, lv, [], h2) P := by
    intro nn h2 lv hl hR2 hF2 g0 g1
    refine Q_a rfl g0 ?_
    refine Q_ico rfl ?_
    refine Q_i rfl g1 ?_
    refine Q_cv [.int (-1), .int x] (.ref 47) [] rfl rfl rfl rfl (fun r4 h4 e4 => ?_)
    have := ro_call rfl e4
    subst this
    obtain ⟨z, rfl⟩ := ret_i (ret_ok rfl e4)
    refine Q_st rfl hl (fun lv1 e3 ej el => ?_)
    have e3 : mget lv1 3 = some (.int z) := e3
    refine Q_a rfl ((ej 0 (by decide)).trans g0) ?_
    refine Q_ico rfl ?_
    refine Q_i rfl ((ej 1 (by decide)).trans g1) ?_
    refine Q_cv [.int 0, .int x] (.ref 47) [] rfl rfl rfl rfl (fun r5 h5 e5 => ?_)
    have c5 := w_ff _ _ _ _ _ _ hR2 e5
    obtain ⟨w, rfl⟩ := ret_i (ret_ok rfl e5)
    have F5 : FN h.1 h5.1 := fun c q1 q2 q3 => (c5 c q3).trans (hF2 c q1 q2 q3)
    refine Q_stw rfl el (fun lv2 f4 fj fl => ?_)
    have fj : ∀ j, j ≠ 4 → mget lv2 j = mget lv1 j := fj
    refine Q_iw rfl f4 ?_
    refine Q_i rfl ((fj 3 (by decide)).trans e3) ?_
    refine Q_ic_ge rfl (fun _ _ _ _ _ => ?_) (fun _ _ _ _ _ => ?_)
    · refine Q_i rfl ((fj 3 (by decide)).trans e3) ?_
      exact Q_iret rfl (fun _ => F5)
    · refine Q_iw rfl f4 ?_
      refine Q_go rfl ?_
      exact Q_iret rfl (fun _ => F5)
  have loop3 : ∀ (nn : Nat) (h2 : mS) (lv : mL) (y : Int32), (∀ q ∈ lv, mone q.2 = true) → RFs h2.1 → FN h.1 h2.1 → mget lv 0 = some (.ref 47) → mget lv 1 = some (.int x) → mget lv 3 = some (.int y) → mPq nn (mcall d) 5 (mgd 200 mtX11_fewest) (86, lv, [], h2) P := by
    intro nn
    induction nn using Nat.strongRecOn with
    | ind nn ih =>
      intro h2 lv y hl hR2 hF2 g0 g1 g3
      obtain ⟨fM, m1, m12, m40, m41⟩ := hR2
      have hR2 : RFs h2.1 := ⟨fM, m1, m12, m40, m41⟩
      refine Q_iS rfl g3 (fun mm hm => ?_)
      refine Q_a rfl g0 ?_
      refine Q_gf rfl rfl (fun _ _ _ _ _ _ => ?_)
      have nxt : ∀ h3 : mS, RFs h3.1 → FN h.1 h3.1 → mPq mm (mcall d) 5 (mgd 200 mtX11_fewest) (166, lv, [], h3) P := by
        intro h3 hR3 hF3
        refine Q_inc rfl g3 hl (fun lv' e3 ej el => ?_)
        refine Q_go rfl ?_
        exact ih mm hm h3 lv' _ el hR3 hF3 ((ej 0 (by decide)).trans g0) ((ej 1 (by decide)).trans g1) e3
      refine Q_ic_ge rfl (fun _ _ _ _ _ => fin mm h2 lv hl hR2 hF2 g0 g1) (fun _ _ _ _ _ => ?_)
      refine Q_a rfl g0 ?_
      refine Q_gf rfl rfl (fun _ _ _ _ _ _ => ?_)
      refine Q_i rfl g3 ?_
      refine Q_ia rfl (fun _ _ _ _ _ _ _ _ _ => ?_)
      refine Q_i rfl g1 ?_
      refine Q_ic_ne rfl (fun _ _ _ _ _ => nxt h2 hR2 hF2) (fun _ _ _ _ _ => ?_)
      refine Q_a rfl g0 ?_
      refine Q_g rfl rfl m1 m40 ?_
      refine Q_a rfl g0 ?_
      refine Q_gf rfl rfl (fun _ _ _ _ _ _ => ?_)
      refine Q_i rfl g3 ?_
      refine Q_ias rfl (fun x1 i1 a1 xs1 e1 e2 e3 e4 _ _ => ?_)
      cases e3
      generalize hh3 : h2.1.set 76 (.inl (0, .inl (xs1.set i1.toNatClampNeg x1))) = L3
      have R3 : RFs L3 := hh3 ▸ hR2.set (by decide)
      have F3 : FN h.1 L3 := hh3 ▸ hF2.set (by decide)
      clear hh3
      obtain ⟨fN, n1, n12, n40, n41⟩ := R3
      refine Q_a rfl g0 ?_
      refine Q_dup rfl ?_
      refine Q_gf rfl rfl (fun _ _ _ _ _ _ => ?_)
      refine Q_ico rfl ?_
      refine Q_bin rfl rfl (fun p q _ _ => ?_)
      refine Q_p rfl n1 (fun _ => ?_)
      dsimp only
      generalize hh4 : L3.set 47 (.inr (11, fN.set 42 (.int (p + q)))) = L4
      have R4 : RFs L4 := hh4 ▸ RFs.put n1 n12 n40 n41
      have F4 : FN h.1 L4 := hh4 ▸ F3.set (by decide)
      clear hh4
      obtain ⟨fK, k1, k12, k40, k41⟩ := R4
      have R4 : RFs L4 := ⟨fK, k1, k12, k40, k41⟩
      have wr : ∀ u w : Int32, mPq mm (mcall d) 5 (mgd 200 mtX11_fewest) (165, lv, [.int u, .int w, .ref 77], (L4, h2.2)) P := by
        intro u w
        refine Q_ias rfl (fun x1 i1 a1 xs1 e1 e2 e3 e4 _ _ => ?_)
        cases e3
        exact nxt _ (R4.set (by decide)) (F4.set (by decide))
      refine Q_a rfl g0 ?_
      refine Q_g rfl rfl k1 k41 ?_
      refine Q_a rfl g0 ?_
      refine Q_g rfl rfl k1 k12 ?_
      refine Q_i rfl g3 ?_
      refine Q_ia rfl (fun _ _ _ _ _ _ _ _ _ => ?_)
      refine Q_a rfl g0 ?_
      refine Q_g rfl rfl k1 k41 ?_
      refine Q_a rfl g0 ?_
      refine Q_g rfl rfl k1 k12 ?_
      refine Q_i rfl g3 ?_
      refine Q_ia rfl (fun _ _ _ _ _ _ _ _ _ => ?_)
      refine Q_ia rfl (fun _ _ _ _ _ _ _ _ _ => ?_)
      refine Q_if_ge rfl (fun _ _ _ => ?_) (fun _ _ _ => ?_)
      · refine Q_a rfl g0 ?_
        refine Q_g rfl rfl k1 k41 ?_
        refine Q_a rfl g0 ?_
        refine Q_g rfl rfl k1 k12 ?_
        refine Q_i rfl g3 ?_
        refine Q_ia rfl (fun _ _ _ _ _ _ _ _ _ => ?_)
        refine Q_ia rfl (fun _ _ _ _ _ _ _ _ _ => ?_)
        refine Q_ico rfl ?_
        refine Q_bin rfl rfl (fun _ _ _ _ => ?_)
        exact wr _ _
      · refine Q_ico rfl ?_
        refine Q_go rfl ?_
        exact wr _ _
  have loop2 : ∀ (nn : Nat) (h2 : mS) (lv : mL) (y : Int32), (∀ q ∈ lv, mone q.2 = true) → RFs h2.1 → FN h.1 h2.1 → mget lv 0 = some (.ref 47) → mget lv 1 = some (.int x) → mget lv 3 = some (.int y) → mPq nn (mcall d) 5 (mgd 200 mtX11_fewest) (63, lv, [], h2) P := by
    intro nn
    induction nn using Nat.strongRecOn with
    | ind nn ih =>
      intro h2 lv y hl hR2 hF2 g0 g1 g3
      obtain ⟨fM, m1, m12, m40, m41⟩ := hR2
      have hR2 : RFs h2.1 := ⟨fM, m1, m12, m40, m41⟩
      refine Q_iS rfl g3 (fun mm hm => ?_)
      refine Q_a rfl g0 ?_
      refine Q_gf rfl rfl (fun _ _ _ _ _ _ => ?_)
      refine Q_ic_ge rfl (fun _ _ _ _ _ => ?_) (fun _ _ _ _ _ => ?_)
      · refine Q_ico rfl ?_
        refine Q_st rfl hl (fun lv' e3 ej el => ?_)
        exact loop3 mm h2 lv' _ el hR2 hF2 ((ej 0 (by decide)).trans g0) ((ej 1 (by decide)).trans g1) e3
      · refine Q_a rfl g0 ?_
        refine Q_g rfl rfl m1 m41 ?_
        refine Q_i rfl g3 ?_
        refine Q_ico rfl ?_
        refine Q_ias rfl (fun x1 i1 a1 xs1 e1 e2 e3 e4 _ _ => ?_)
        cases e3
        refine Q_inc rfl g3 hl (fun lv' e3 ej el => ?_)
        refine Q_go rfl ?_
        exact ih mm hm _ lv' _ el (hR2.set (by decide)) (hF2.set (by decide)) ((ej 0 (by decide)).trans g0) ((ej 1 (by decide)).trans g1) e3
  have loop1 : ∀ (nn : Nat) (h2 : mS) (lv : mL) (y z : Int32), (∀ q ∈ lv, mone q.2 = true) → RFs h2.1 → FN h.1 h2.1 → mget lv 0 = some (.ref 47) → mget lv 1 = some (.int x) → mget lv 2 = some (.int z) → mget lv 3 = some (.int y) → mPq nn (mcall d) 5 (mgd 200 mtX11_fewest) (20, lv, [], h2) P := by
    intro nn
    induction nn using Nat.strongRecOn with
    | ind nn ih =>
      intro h2 lv y z hl hR2 hF2 g0 g1 g2 g3
      refine Q_iS rfl g3 (fun mm hm => ?_)
      refine Q_a rfl g0 ?_
      refine Q_gf rfl rfl (fun _ _ _ _ _ _ => ?_)
      refine Q_ic_ge rfl (fun _ _ _ _ _ => ?_) (fun _ _ _ _ _ => ?_)
      · refine Q_i rfl g2 ?_
        refine Q_bip rfl ?_
        refine Q_ic_le rfl (fun _ _ _ _ _ => ?_) (fun _ _ _ _ _ => ?_)
        · refine Q_ico rfl ?_
          refine Q_st rfl hl (fun lv' e3 ej el => ?_)
          exact loop2 mm h2 lv' _ el hR2 hF2 ((ej 0 (by decide)).trans g0) ((ej 1 (by decide)).trans g1) e3
        · refine Q_bip rfl ?_
          exact Q_iret rfl (fun _ => hF2)
      · have nxt : ∀ u : Int32, mPq mm (mcall d) 5 (mgd 200 mtX11_fewest) (44, lv, [.int u, .int z], h2) P := by
          intro u
          refine Q_bin rfl rfl (fun _ _ _ _ => ?_)
          refine Q_st rfl hl (fun lv' e2 ej el => ?_)
          refine Q_inc rfl ((ej 3 (by decide)).trans g3) el (fun lv2 f3 fj fl => ?_)
          have fj : ∀ j, j ≠ 3 → mget lv2 j = mget lv' j := fj
          refine Q_go rfl ?_
          exact ih mm hm h2 lv2 _ _ fl hR2 hF2 ((fj 0 (by decide)).trans ((ej 0 (by decide)).trans g0)) ((fj 1 (by decide)).trans ((ej 1 (by decide)).trans g1)) ((fj 2 (by decide)).trans e2) f3
        refine Q_i rfl g2 ?_
        refine Q_a rfl g0 ?_
        refine Q_gf rfl rfl (fun _ _ _ _ _ _ => ?_)
        refine Q_i rfl g3 ?_
        refine Q_ia rfl (fun _ _ _ _ _ _ _ _ _ => ?_)
        refine Q_i rfl g1 ?_
        refine Q_ic_ne rfl (fun _ _ _ _ _ => ?_) (fun _ _ _ _ _ => ?_)
        · refine Q_ico rfl ?_
          exact nxt _
        · refine Q_ico rfl ?_
          refine Q_go rfl ?_
          exact nxt _
  obtain ⟨fM, m1, m12, m40, m41⟩ := hR
  refine Q_call (P := P) rfl e (fun ha => ?_)
  refine Q_i rfl rfl ?_
  refine Q_ico rfl ?_
  refine Q_ico rfl ?_
  refine Q_cs [.int x, .int 0, .int 2] [] rfl rfl rfl rfl (fun r4 h4 e4 => ?_)
  have := ro_call rfl e4
  subst this
  obtain ⟨z, rfl⟩ := ret_b (ret_ok rfl e4)
  refine Q_if_ne rfl (fun _ _ _ => ?_) (fun _ _ _ => ?_)
  · refine Q_a rfl rfl ?_
    refine Q_ico rfl ?_
    refine Q_p rfl m1 (fun _ => ?_)
    refine Q_ico rfl ?_
    refine Q_st rfl (lva_all _ _ ha) (fun lv1 e2 ej el => ?_)
    refine Q_ico rfl ?_
    refine Q_st rfl el (fun lv2 f3 fj fl => ?_)
    have fj : ∀ j, j ≠ 3 → mget lv2 j = mget lv1 j := fj
    exact loop1 mfuel _ lv2 _ _ fl (RFs.put m1 m12 m40 m41) (FN.set (fun _ _ _ _ => rfl) (by decide)) ((fj 0 (by decide)).trans (ej 0 (by decide))) ((fj 1 (by decide)).trans (ej 1 (by decide))) ((fj 2 (by decide)).trans e2) f3
  · refine Q_ico rfl ?_
    exact Q_iret rfl (fun _ => fun _ _ _ _ => rfl)
