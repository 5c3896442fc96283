/-! the reference's fewest leaves whose strip is whose -/
def RFs (h : List mC) : Prop := ∃ fM, h[47]? = some (.inr (11, fM)) ∧ fM[12]? = some (.ref 58) ∧ fM[40]? = some (.ref 76) ∧ fM[41]? = some (.ref 77)
theorem RFs.eq {a b : List mC} (p : RFs a) (e : b[47]? = a[47]?) : RFs b := by
  obtain ⟨fM, a1, a2⟩ := p
  exact ⟨fM, e.trans a1, a2⟩
theorem RFs.set {a : List mC} {k : Nat} {v : mC} (p : RFs a) (e : k ≠ 47) : RFs (a.set k v) := p.eq (List.getElem?_set_ne e)
theorem set_back {OW : List Int32} {o : Nat} {w : Int32} (h : OW[o]? = some w) : OW.set o w = OW := by
  obtain ⟨l, e⟩ := List.getElem?_eq_some_iff.mp h
  rw [← e]
  exact List.set_getElem_self l
set_option maxRecDepth 10000 in
set_option maxHeartbeats 1000000 in
theorem w_ff : ∀ (d : Nat) (i x : Int32) (h h' : mS) (r : Option Value), RFs h.1 → mcall d 158 [.ref 47, .int i, .int x] h = some (r, h') → ∀ c, c ≠ 77 → h'.1[c]? = h.1[c]? := by
  intro d
  induction d with
  | zero => intro i x h h' r _ e; cases e
  | succ d ihd =>
    intro i x h h' r hR e
    let P : Option Value → mS → Prop := fun r h' => ∀ c, c ≠ 77 → h'.1[c]? = h.1[c]?
    have hR0 := hR
    obtain ⟨fM, m1, m12, m40, m41⟩ := hR
    have loop1 : ∀ (nn : Nat) (lv : mL) (y z : Int32), (∀ q ∈ lv, mone q.2 = true) → mget lv 0 = some (.ref 47) → mget lv 2 = some (.int x) → mget lv 3 = some (.int y) → mget lv 4 = some (.int z) → mPq nn (mcall d) 7 (mgd 190 mtX11_fewestFrom) (13, lv, [], h) P := by
      intro nn
      induction nn using Nat.strongRecOn with
      | ind nn ih =>
        intro lv y z hl g0 g2 g3 g4
        refine Q_iwS rfl g4 (fun mm hm => ?_)
        refine Q_a rfl g0 ?_
        refine Q_gf rfl rfl (fun _ _ _ _ _ _ => ?_)
        have nxt : ∀ u : Int32, mPq mm (mcall d) 7 (mgd 190 mtX11_fewestFrom) (50, lv, [.int u], h) P := by
          intro u
          refine Q_st rfl hl (fun lv1 e1 ej el => ?_)
          refine Q_inc rfl ((ej 4 (by decide)).trans g4) el (fun lv2 f1 fj fl => ?_)
          refine Q_go rfl ?_
          exact ih mm hm lv2 u _ fl ((fj 0 (by decide)).trans ((ej 0 (by decide)).trans g0)) ((fj 2 (by decide)).trans ((ej 2 (by decide)).trans g2)) ((fj 3 (by decide)).trans e1) f1
        have no : mPq mm (mcall d) 7 (mgd 190 mtX11_fewestFrom) (49, lv, [], h) P := by
          refine Q_ico rfl ?_
          exact nxt _
        have yes : mPq mm (mcall d) 7 (mgd 190 mtX11_fewestFrom) (45, lv, [], h) P := by
          refine Q_ico rfl ?_
          refine Q_go rfl ?_
          exact nxt _
        refine Q_ic_ge rfl (fun _ _ _ _ _ => ?_) (fun _ _ _ _ _ => ?_)
        · refine Q_i rfl g3 ?_
          refine Q_if_eq rfl (fun _ _ _ => ?_) (fun _ _ _ => ?_)
          · refine Q_bip rfl ?_
            exact Q_iret rfl (fun _ c _ => rfl)
          · refine Q_a rfl g0 ?_
            refine Q_ico rfl ?_
            refine Q_i rfl g2 ?_
            refine Q_cv [.int (-1), .int x] (.ref 47) [] rfl rfl rfl rfl (fun r4 h4 e4 => ?_)
            have := ro_call rfl e4
            subst this
            refine Q_go rfl ?_
            exact Q_iret rfl (fun _ c _ => rfl)
        · refine Q_i rfl g3 ?_
          refine Q_if_eq rfl (fun _ _ _ => no) (fun _ _ _ => ?_)
          refine Q_a rfl g0 ?_
          refine Q_gf rfl rfl (fun _ _ _ _ _ _ => ?_)
          refine Q_iw rfl g4 ?_
          refine Q_ia rfl (fun _ _ _ _ _ _ _ _ _ => ?_)
          refine Q_if_lt rfl (fun _ _ _ => yes) (fun _ _ _ => ?_)
          refine Q_a rfl g0 ?_
          refine Q_iw rfl g4 ?_
          refine Q_cv [.int z] (.ref 47) [] rfl rfl rfl rfl (fun r4 h4 e4 => ?_)
          have := ro_call rfl e4
          subst this
          obtain ⟨u, rfl⟩ := ret_b (ret_ok rfl e4)
          refine Q_if_eq rfl (fun _ _ _ => no) (fun _ _ _ => ?_)
          exact yes
    have loop2 : ∀ (nn : Nat) (OW OD : List Int32) (o w : Int32), OD[i.toNatClampNeg]? = some o → OW[o.toNatClampNeg]? = some w → h.1[58]? = some (cAr OW) → h.1[76]? = some (cAr OD) → ∀ (h2 : mS) (lv : mL) (y z : Int32), (∀ q ∈ lv, mone q.2 = true) → (∀ c, c ≠ 77 → c ≠ 58 → h2.1[c]? = h.1[c]?) → (∃ u : Int32, h2.1[58]? = some (cAr (OW.set o.toNatClampNeg u))) → mget lv 0 = some (.ref 47) → mget lv 1 = some (.int i) → mget lv 2 = some (.int x) → mget lv 3 = some (.int y) → mget lv 4 = some (.int w) → mget lv 5 = some (.int z) → mPq nn (mcall d) 7 (mgd 190 mtX11_fewestFrom) (92, lv, [], h2) P := by
      intro nn OW OD o w hOD hOW c58 c76
      induction nn using Nat.strongRecOn with
      | ind nn ih =>
        intro h2 lv y z hl hF hU g0 g1 g2 g3 g4 g5
        obtain ⟨u, hu⟩ := hU
        have M1 : h2.1[47]? = some (.inr (11, fM)) := (hF 47 (by decide) (by decide)).trans m1
        have C76 : h2.1[76]? = some (cAr OD) := (hF 76 (by decide) (by decide)).trans c76
        refine Q_iwS rfl g5 (fun mm hm => ?_)
        refine Q_a rfl g0 ?_
        refine Q_gf rfl rfl (fun _ _ _ _ _ _ => ?_)
        have nxt : ∀ (h3 : mS) (lv1 : mL) (y1 : Int32), (∀ q ∈ lv1, mone q.2 = true) → (∀ c, c ≠ 77 → c ≠ 58 → h3.1[c]? = h.1[c]?) → (∃ u : Int32, h3.1[58]? = some (cAr (OW.set o.toNatClampNeg u))) → (∀ j, j ≠ 3 → j ≠ 6 → mget lv1 j = mget lv j) → mget lv1 3 = some (.int y1) → mPq mm (mcall d) 7 (mgd 190 mtX11_fewestFrom) (169, lv1, [], h3) P := by
          intro h3 lv1 y1 el hF3 hU3 ej e3
          refine Q_inc rfl ((ej 5 (by decide) (by decide)).trans g5) el (fun lv2 f1 fj fl => ?_)
          refine Q_go rfl ?_
          exact ih mm hm h3 lv2 y1 _ fl hF3 hU3 ((fj 0 (by decide)).trans ((ej 0 (by decide) (by decide)).trans g0)) ((fj 1 (by decide)).trans ((ej 1 (by decide) (by decide)).trans g1)) ((fj 2 (by decide)).trans ((ej 2 (by decide) (by decide)).trans g2)) ((fj 3 (by decide)).trans e3) ((fj 4 (by decide)).trans ((ej 4 (by decide) (by decide)).trans g4)) f1
        refine Q_ic_ge rfl (fun _ _ _ _ _ => ?_) (fun _ _ _ _ _ => ?_)
        · refine Q_a rfl g0 ?_
          refine Q_g rfl rfl M1 m12 ?_
          refine Q_a rfl g0 ?_
          refine Q_g rfl rfl M1 m40 ?_
          refine Q_i rfl g1 ?_
          refine Q_ia rfl (fun _ _ _ _ ei ea ex _ ey => ?_)
          cases ei
          cases ea
          rw [C76] at ex
          cases ex
          rw [hOD] at ey
          cases ey
          refine Q_iw rfl g4 ?_
          refine Q_ias rfl (fun _ _ _ _ e1 e2 e3 e4 _ _ => ?_)
          cases e1
          cases e2
          cases e3
          rw [hu] at e4
          cases e4
          refine Q_i rfl g3 ?_
          refine Q_iret rfl (fun _ c hc => ?_)
          dsimp only
          have l58 : 58 < h2.1.length := (List.getElem?_eq_some_iff.mp hu).1
          by_cases h58 : c = 58
          · subst h58
            rw [List.getElem?_set_self l58, List.set_set, set_back hOW, c58]
          · rw [List.getElem?_set_ne (fun e => h58 e.symm)]
            exact hF c hc h58
        · refine Q_a rfl g0 ?_
          refine Q_g rfl rfl M1 m41 ?_
          refine Q_iw rfl g5 ?_
          refine Q_ia rfl (fun _ _ _ _ _ _ _ _ _ => ?_)
          refine Q_if_le rfl (fun _ _ _ => nxt h2 lv y hl hF ⟨u, hu⟩ (fun _ _ _ => rfl) g3) (fun _ _ _ => ?_)
          refine Q_a rfl g0 ?_
          refine Q_g rfl rfl M1 m41 ?_
          refine Q_iw rfl g5 ?_
          refine Q_dup2 rfl ?_
          refine Q_ia rfl (fun _ _ _ _ _ _ _ _ _ => ?_)
          refine Q_ico rfl ?_
          refine Q_bin rfl rfl (fun _ _ _ _ => ?_)
          refine Q_ias rfl (fun x1 i1 a1 xs1 e1 e2 e3 e4 _ _ => ?_)
          cases e3
          have M1' : (h2.1.set 77 (.inl (0, .inl (xs1.set i1.toNatClampNeg x1))))[47]? = some (.inr (11, fM)) := by rw [List.getElem?_set_ne (by decide)]; exact M1
          have C76' : (h2.1.set 77 (.inl (0, .inl (xs1.set i1.toNatClampNeg x1))))[76]? = some (cAr OD) := by rw [List.getElem?_set_ne (by decide)]; exact C76
          refine Q_a rfl g0 ?_
          refine Q_g rfl rfl M1' m12 ?_
          refine Q_a rfl g0 ?_
          refine Q_g rfl rfl M1' m40 ?_
          refine Q_i rfl g1 ?_
          refine Q_ia rfl (fun _ _ _ _ ei ea ex _ ey => ?_)
          cases ei
          cases ea
          dsimp only at ex
          rw [C76'] at ex
          cases ex
          rw [hOD] at ey
          cases ey
          refine Q_iw rfl g5 ?_
          refine Q_ias rfl (fun x2 i2 a2 xs2 f1 f2 f3 f4 _ _ => ?_)
          cases f1
          cases f2
          cases f3
          dsimp only at f4
          rw [List.getElem?_set_ne (by decide), hu] at f4
          cases f4
          have l58 : 58 < (h2.1.set 77 (.inl (0, .inl (xs1.set i1.toNatClampNeg x1)))).length := by rw [List.length_set]; exact (List.getElem?_eq_some_iff.mp hu).1
          refine Q_a rfl g0 ?_
          refine Q_i rfl g1 ?_
          refine Q_ico rfl ?_
          refine Q_bin rfl rfl (fun p1 p2 _ _ => ?_)
          refine Q_i rfl g2 ?_
          refine Q_cv [.int (p1 + p2), .int x] (.ref 47) [] rfl rfl rfl rfl (fun r4 h4 e4 => ?_)
          have hR3 : RFs ((h2.1.set 77 (.inl (0, .inl (xs1.set i1.toNatClampNeg x1)))).set 58 (.inl (0, .inl ((OW.set o.toNatClampNeg u).set o.toNatClampNeg z)))) := ((hR0.eq (hF 47 (by decide) (by decide))).set (by decide)).set (by decide)
          have c4 := ihd _ _ _ _ _ hR3 e4
          obtain ⟨v4, rfl⟩ := ret_i (ret_ok rfl e4)
          dsimp only at c4
          have F4 : ∀ c, c ≠ 77 → c ≠ 58 → h4.1[c]? = h.1[c]? := by
            intro c q1 q2
            rw [c4 c q1, List.getElem?_set_ne (fun e => q2 e.symm), List.getElem?_set_ne (fun e => q1 e.symm)]
            exact hF c q1 q2
          have U4 : h4.1[58]? = some (cAr (OW.set o.toNatClampNeg z)) := by
            rw [c4 58 (by decide), List.getElem?_set_self l58, List.set_set]
          have M4 : h4.1[47]? = some (.inr (11, fM)) := (F4 47 (by decide) (by decide)).trans m1
          clear e4 c4
          refine Q_stw rfl hl (fun lv1 k6 kj kl => ?_)
          have kj : ∀ j, j ≠ 6 → mget lv1 j = mget lv j := kj
          refine Q_iw rfl k6 ?_
          refine Q_i rfl ((kj 3 (by decide)).trans g3) ?_
          have fin : ∀ v : Int32, mPq mm (mcall d) 7 (mgd 190 mtX11_fewestFrom) (157, lv1, [.int v], h4) P := by
            intro v
            refine Q_st rfl kl (fun lv2 t3 tj tl => ?_)
            have tj : ∀ j, j ≠ 3 → mget lv2 j = mget lv1 j := tj
            refine Q_a rfl ((tj 0 (by decide)).trans ((kj 0 (by decide)).trans g0)) ?_
            refine Q_g rfl rfl M4 m41 ?_
            refine Q_iw rfl ((tj 5 (by decide)).trans ((kj 5 (by decide)).trans g5)) ?_
            refine Q_dup2 rfl ?_
            refine Q_ia rfl (fun _ _ _ _ _ _ _ _ _ => ?_)
            refine Q_ico rfl ?_
            refine Q_bin rfl rfl (fun _ _ _ _ => ?_)
            refine Q_ias rfl (fun x1 i1 a1 xs1 e1 e2 e3 e4 _ _ => ?_)
            cases e3
            refine nxt _ lv2 v tl ?_ ⟨z, ?_⟩ (fun j q1 q2 => (tj j q1).trans (kj j q2)) t3
            · intro c q1 q2
              dsimp only
              rw [List.getElem?_set_ne (fun e => q1 e.symm)]
              exact F4 c q1 q2
            · dsimp only
              rw [List.getElem?_set_ne (by decide)]
              exact U4
          refine Q_ic_ge rfl (fun _ _ _ _ _ => ?_) (fun _ _ _ _ _ => ?_)
          · refine Q_i rfl ((kj 3 (by decide)).trans g3) ?_
            exact fin y
          · refine Q_iw rfl k6 ?_
            refine Q_go rfl ?_
            exact fin v4
    refine Q_call (P := P) rfl e (fun ha => ?_)
    refine Q_i rfl rfl ?_
    refine Q_a rfl rfl ?_
    refine Q_gf rfl rfl (fun _ _ _ _ _ _ => ?_)
    refine Q_ic_ne rfl (fun _ _ _ _ _ => ?_) (fun _ _ _ _ _ => ?_)
    · refine Q_bip rfl ?_
      refine Q_st rfl (lva_all _ _ ha) (fun lv1 e1 ej el => ?_)
      have g0 : mget lv1 0 = some (.ref 47) := ej 0 (by decide)
      have g1 : mget lv1 1 = some (.int i) := ej 1 (by decide)
      have g2 : mget lv1 2 = some (.int x) := ej 2 (by decide)
      refine Q_a rfl g0 ?_
      refine Q_g rfl rfl m1 m12 ?_
      refine Q_a rfl g0 ?_
      refine Q_g rfl rfl m1 m40 ?_
      refine Q_i rfl g1 ?_
      refine Q_ia rfl (fun i1 a1 OD o ei ea c76 _ hOD => ?_)
      cases ei
      cases ea
      refine Q_ia rfl (fun i2 a2 OW w ei ea c58 _ hOW => ?_)
      cases ei
      cases ea
      refine Q_stw rfl el (fun lv2 f4 fj fl => ?_)
      have fj : ∀ j, j ≠ 4 → mget lv2 j = mget lv1 j := fj
      refine Q_ico rfl ?_
      refine Q_stw rfl fl (fun lv3 t5 tj tl => ?_)
      have tj : ∀ j, j ≠ 5 → mget lv3 j = mget lv2 j := tj
      refine loop2 mfuel OW OD o w hOD hOW c58 c76 h lv3 _ _ tl (fun _ _ _ => rfl) ⟨w, ?_⟩ ((tj 0 (by decide)).trans ((fj 0 (by decide)).trans g0)) ((tj 1 (by decide)).trans ((fj 1 (by decide)).trans g1)) ((tj 2 (by decide)).trans ((fj 2 (by decide)).trans g2)) ((tj 3 (by decide)).trans ((fj 3 (by decide)).trans e1)) ((tj 4 (by decide)).trans f4) t5
      rw [set_back hOW]
      exact c58
    · refine Q_ico rfl ?_
      refine Q_st rfl (lva_all _ _ ha) (fun lv1 e1 ej el => ?_)
      refine Q_ico rfl ?_
      refine Q_stw rfl el (fun lv2 f4 fj fl => ?_)
      have fj : ∀ j, j ≠ 4 → mget lv2 j = mget lv1 j := fj
      exact loop1 mfuel lv2 _ _ fl ((fj 0 (by decide)).trans (ej 0 (by decide))) ((fj 2 (by decide)).trans (ej 2 (by decide))) ((fj 3 (by decide)).trans e1) f4
