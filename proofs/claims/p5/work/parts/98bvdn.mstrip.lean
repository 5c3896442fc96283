set_option maxRecDepth 10000 in
theorem w_Mcourt {d : Nat} {h h' : mS} {r : Option Value} {fM : List Value} (m1 : h.1[47]? = some (.inr (11, fM))) (m7 : fM[7]? = some (.ref 54)) (e : mcall (d + 1) 151 [.ref 47] h = some (r, h')) : ∀ c, c ≠ 54 → h'.1[c]? = h.1[c]? := by
  let P : Option Value → mS → Prop := fun r h' => ∀ c, c ≠ 54 → h'.1[c]? = h.1[c]?
  have key : ∀ (nn : Nat) (h2 : mS) (lv : mL) (x y : Int32), (∀ q ∈ lv, mone q.2 = true) → (∀ c, c ≠ 54 → h2.1[c]? = h.1[c]?) → mget lv 0 = some (.ref 47) → mget lv 1 = some (.int x) → mget lv 2 = some (.int y) → mPq nn (mcall d) 3 (mgd 53 mtX11_court) (4, lv, [], h2) P := by
    intro nn
    induction nn using Nat.strongRecOn with
    | ind nn ih =>
      intro h2 lv x y hl hF g0 g1 g2
      have M1 : h2.1[47]? = some (.inr (11, fM)) := (hF 47 (by decide)).trans m1
      refine Q_iS rfl g2 (fun mm hm => ?_)
      refine Q_a rfl g0 ?_
      refine Q_gf rfl rfl (fun _ _ _ _ _ _ => ?_)
      refine Q_ic_ge rfl (fun _ _ _ _ _ => ?_) (fun _ _ _ _ _ => ?_)
      · refine Q_i rfl g1 ?_
        exact Q_iret rfl (fun _ => hF)
      · refine Q_i rfl g1 ?_
        refine Q_a rfl g0 ?_
        refine Q_g rfl rfl M1 m7 ?_
        refine Q_i rfl g2 ?_
        refine Q_ia rfl (fun _ _ _ _ _ _ _ _ _ => ?_)
        refine Q_a rfl g0 ?_
        refine Q_i rfl g2 ?_
        refine Q_cv [.int y] (.ref 47) _ rfl rfl rfl rfl (fun r4 h4 e4 => ?_)
        have := ro_call rfl e4
        subst this
        obtain ⟨b4, rfl⟩ := ret_i (ret_ok rfl e4)
        clear e4
        have nxt : ∀ u : Int32, mPq mm (mcall d) 3 (mgd 53 mtX11_court) (32, lv, [.int u, .int x], h4) P := by
          intro u
          refine Q_bin rfl rfl (fun _ _ _ _ => ?_)
          refine Q_st rfl hl (fun lv1 e1 ej el => ?_)
          have e1 : mget lv1 1 = _ := e1
          refine Q_a rfl ((ej 0 (by decide)).trans g0) ?_
          refine Q_g rfl rfl M1 m7 ?_
          refine Q_i rfl ((ej 2 (by decide)).trans g2) ?_
          refine Q_a rfl ((ej 0 (by decide)).trans g0) ?_
          refine Q_i rfl ((ej 2 (by decide)).trans g2) ?_
          refine Q_cv [.int y] (.ref 47) _ rfl rfl rfl rfl (fun r5 h5 e5 => ?_)
          have := ro_call rfl e5
          subst this
          obtain ⟨b5, rfl⟩ := ret_i (ret_ok rfl e5)
          refine Q_ias rfl (fun x1 i1 a1 xs1 t1 t2 t3 t4 _ _ => ?_)
          cases t3
          refine Q_inc rfl ((ej 2 (by decide)).trans g2) el (fun lv2 f2 fj fl => ?_)
          have fj : ∀ j, j ≠ 2 → mget lv2 j = mget lv1 j := fj
          refine Q_go rfl ?_
          refine ih mm hm _ lv2 _ _ fl ?_ ((fj 0 (by decide)).trans ((ej 0 (by decide)).trans g0)) ((fj 1 (by decide)).trans e1) f2
          intro c hc
          dsimp only
          rw [List.getElem?_set_ne (fun e => hc e.symm)]
          exact hF c hc
        refine Q_ic_eq rfl (fun _ _ _ _ _ => ?_) (fun _ _ _ _ _ => ?_)
        · refine Q_ico rfl ?_
          exact nxt _
        · refine Q_ico rfl ?_
          refine Q_go rfl ?_
          exact nxt _
  refine Q_call (P := P) rfl e (fun ha => ?_)
  refine Q_ico rfl ?_
  refine Q_st rfl (lva_all _ _ ha) (fun lv1 e1 ej el => ?_)
  refine Q_ico rfl ?_
  refine Q_st rfl el (fun lv2 f2 fj fl => ?_)
  have fj : ∀ j, j ≠ 2 → mget lv2 j = mget lv1 j := fj
  exact key mfuel h lv2 _ _ fl (fun _ _ => rfl) ((fj 0 (by decide)).trans (ej 0 (by decide))) ((fj 1 (by decide)).trans e1) f2
/-- the cells that the reference's strip writes -/
def mSc : List Nat := [47, 54, 56, 57, 58, 59, 61, 66]
/-- a strip more in the reference -/
def MS (S z : Int32) (h h' : List mC) : Prop := (0 ≤ S.toInt ∧ ∃ OW, h[58]? = some (cAr OW) ∧ S.toNatClampNeg < OW.length ∧ h'[58]? = some (cAr (OW.set S.toNatClampNeg z))) ∧ (∃ fM, h'[47]? = some (.inr (11, fM)) ∧ fM[21]? = some (.int (S + 1))) ∧ ∀ c, c ∉ mSc → h'[c]? = h[c]?
def FC (h h' : List mC) : Prop := ∀ c, c ∉ mSc → h'[c]? = h[c]?
theorem FC.set {h h' : List mC} {k : Nat} {v : mC} (a : FC h h') (hk : k ∈ mSc) : FC h (h'.set k v) := by
  intro c hc
  rw [List.getElem?_set_ne (fun (e : k = c) => hc (e ▸ hk))]
  exact a c hc
set_option maxRecDepth 10000 in
set_option maxHeartbeats 1000000 in
theorem w_Mstrip {d : Nat} {x y z S : Int32} {h h' : mS} {r : Option Value} {fM : List Value} (m1 : h.1[47]? = some (.inr (11, fM))) (m7 : fM[7]? = some (.ref 54)) (m10 : fM[10]? = some (.ref 56)) (m11 : fM[11]? = some (.ref 57)) (m12 : fM[12]? = some (.ref 58)) (m13 : fM[13]? = some (.ref 59)) (m15 : fM[15]? = some (.ref 61)) (m20 : fM[20]? = some (.ref 66)) (m21 : fM[21]? = some (.int S)) (e : mcall (d + 2) 129 [.ref 47, .int x, .int y, .int z] h = some (r, h')) : (h' = h ∧ ∃ v : Int32, r = some (.int v) ∧ v.toInt < 0) ∨ MS S z h.1 h'.1 := by
  let P : Option Value → mS → Prop := fun r h' => (h' = h ∧ ∃ v : Int32, r = some (.int v) ∧ v.toInt < 0) ∨ MS S z h.1 h'.1
  refine Q_call (P := P) rfl e (fun ha => ?_)
  have no : mPq mfuel (mcall (d + 1)) 5 (mgd 124 mtX11_strip) (27, lv_args 0 [.ref 47, .int x, .int y, .int z], [], h) P := by
    refine Q_ico rfl ?_
    refine Q_irt rfl (fun v ev _ => ?_)
    cases ev
    exact Or.inl ⟨rfl, _, rfl, by decide⟩
  refine Q_i rfl rfl ?_
  refine Q_ico rfl ?_
  refine Q_ico rfl ?_
  refine Q_cs [.int x, .int 0, .int 2] [] rfl rfl rfl rfl (fun r4 h4 e4 => ?_)
  have := ro_call rfl e4
  subst this
  obtain ⟨b1, rfl⟩ := ret_b (ret_ok rfl e4)
  refine Q_if_eq rfl (fun _ _ _ => no) (fun _ _ _ => ?_)
  refine Q_i rfl rfl ?_
  refine Q_ico rfl ?_
  refine Q_bip rfl ?_
  refine Q_cs [.int y, .int 1, .int 9] [] rfl rfl rfl rfl (fun r5 h5 e5 => ?_)
  have := ro_call rfl e5
  subst this
  obtain ⟨b2, rfl⟩ := ret_b (ret_ok rfl e5)
  refine Q_if_eq rfl (fun _ _ _ => no) (fun _ _ _ => ?_)
  refine Q_a rfl rfl ?_
  refine Q_i rfl rfl ?_
  refine Q_cv [.int z] (.ref 47) [] rfl rfl rfl rfl (fun r6 h6 e6 => ?_)
  have := ro_call rfl e6
  subst this
  obtain ⟨b3, rfl⟩ := ret_b (ret_ok rfl e6)
  refine Q_if_ne rfl (fun _ _ _ => ?_) (fun _ _ _ => no)
  clear e4 e5 e6
  refine Q_a rfl rfl ?_
  refine Q_g rfl rfl m1 m21 ?_
  refine Q_bip rfl ?_
  refine Q_ic_ne rfl (fun _ _ _ _ _ => ?_) (fun _ _ _ _ _ => ?_)
  rotate_left
  · refine Q_bip rfl ?_
    refine Q_irt rfl (fun v ev _ => ?_)
    cases ev
    exact Or.inl ⟨rfl, _, rfl, by decide⟩
  -- fields
  refine Q_a rfl rfl ?_
  refine Q_g rfl rfl m1 m10 ?_
  refine Q_a rfl rfl ?_
  refine Q_g rfl rfl m1 m21 ?_
  refine Q_i rfl rfl ?_
  refine Q_ias rfl (fun x1 i1 a1 xs1 t1 t2 t3 t4 _ _ => ?_)
  cases t3
  have step : ∀ (l l2 : mS) (k : Nat) (v : mC), l2 = (l.1.set k v, l.2) → k ≠ 47 → k ≠ 58 → k ∈ mSc → l.1[47]? = some (.inr (11, fM)) → l.1[58]? = h6.1[58]? → FC h6.1 l.1 → l2.1[47]? = some (.inr (11, fM)) ∧ l2.1[58]? = h6.1[58]? ∧ FC h6.1 l2.1 := by
    intro l l2 k v e1 k1 k2 k3 p1 p2 p3
    subst e1
    dsimp only
    refine ⟨?_, ?_, p3.set k3⟩
    · rw [List.getElem?_set_ne k1]; exact p1
    · rw [List.getElem?_set_ne k2]; exact p2
  generalize hX1 : (h6.1.set 56 (.inl (0, .inl (xs1.set i1.toNatClampNeg x1))), h6.2) = X1
  obtain ⟨o1, o2, o3⟩ := step h6 X1 56 _ hX1.symm (by decide) (by decide) (by decide) m1 rfl (fun _ _ => rfl)
  clear hX1 t1 t2 t4
  -- soil
  refine Q_a rfl rfl ?_
  refine Q_g rfl rfl o1 m11 ?_
  refine Q_a rfl rfl ?_
  refine Q_g rfl rfl o1 m21 ?_
  refine Q_i rfl rfl ?_
  refine Q_ias rfl (fun x2 i2 a2 xs2 t1 t2 t3 t4 _ _ => ?_)
  cases t3
  generalize hX2 : (X1.1.set 57 (.inl (0, .inl (xs2.set i2.toNatClampNeg x2))), X1.2) = X2
  obtain ⟨p1, p2, p3⟩ := step X1 X2 57 _ hX2.symm (by decide) (by decide) (by decide) o1 o2 o3
  clear hX2 t1 t2 t4
  -- house
  refine Q_a rfl rfl ?_
  refine Q_g rfl rfl p1 m12 ?_
  refine Q_a rfl rfl ?_
  refine Q_g rfl rfl p1 m21 ?_
  refine Q_i rfl rfl ?_
  refine Q_ias rfl (fun x3 i3 a3 OW t1 t2 t3 t4 S0 Sl => ?_)
  cases t1
  cases t2
  cases t3
  rw [p2] at t4
  have l58 : 58 < X2.1.length := by
    have := (List.getElem?_eq_some_iff.mp (p2.trans t4)).1
    exact this
  have u58 : (X2.1.set 58 (.inl (0, .inl (OW.set S.toNatClampNeg z))))[58]? = some (cAr (OW.set S.toNatClampNeg z)) := List.getElem?_set_self l58
  generalize hX3 : (X2.1.set 58 (.inl (0, .inl (OW.set S.toNatClampNeg z))), X2.2) = X3
  have q1 : X3.1[47]? = some (.inr (11, fM)) := by
    rw [← hX3]
    dsimp only
    rw [List.getElem?_set_ne (by decide)]
    exact p1
  have q2 : X3.1[58]? = some (cAr (OW.set S.toNatClampNeg z)) := by rw [← hX3]; exact u58
  have q3 : FC h6.1 X3.1 := by rw [← hX3]; exact p3.set (by decide)
  clear hX3
  have step2 : ∀ (l l2 : mS) (k : Nat) (v : mC), l2 = (l.1.set k v, l.2) → k ≠ 47 → k ≠ 58 → k ∈ mSc → l.1[47]? = some (.inr (11, fM)) → l.1[58]? = some (cAr (OW.set S.toNatClampNeg z)) → FC h6.1 l.1 → l2.1[47]? = some (.inr (11, fM)) ∧ l2.1[58]? = some (cAr (OW.set S.toNatClampNeg z)) ∧ FC h6.1 l2.1 := by
    intro l l2 k v e1 k1 k2 k3 p1 p2 p3
    subst e1
    dsimp only
    refine ⟨?_, ?_, p3.set k3⟩
    · rw [List.getElem?_set_ne k1]; exact p1
    · rw [List.getElem?_set_ne k2]; exact p2
  refine Q_a rfl rfl ?_
  refine Q_g rfl rfl q1 m13 ?_
  refine Q_a rfl rfl ?_
  refine Q_g rfl rfl q1 m21 ?_
  refine Q_ico rfl ?_
  refine Q_ias rfl (fun x4 i4 a4 xs4 t1 t2 t3 _ _ _ => ?_)
  cases t3
  generalize hX4 : (X3.1.set 59 (.inl (0, .inl (xs4.set i4.toNatClampNeg x4))), X3.2) = X4
  obtain ⟨r1, r2, r3⟩ := step2 X3 X4 59 _ hX4.symm (by decide) (by decide) (by decide) q1 q2 q3
  clear hX4 t1 t2
  refine Q_a rfl rfl ?_
  refine Q_g rfl rfl r1 m15 ?_
  refine Q_a rfl rfl ?_
  refine Q_g rfl rfl r1 m21 ?_
  refine Q_ico rfl ?_
  refine Q_ias rfl (fun x5 i5 a5 xs5 t1 t2 t3 _ _ _ => ?_)
  cases t3
  generalize hX5 : (X4.1.set 61 (.inl (0, .inl (xs5.set i5.toNatClampNeg x5))), X4.2) = X5
  obtain ⟨s1, s2, s3⟩ := step2 X4 X5 61 _ hX5.symm (by decide) (by decide) (by decide) r1 r2 r3
  clear hX5 t1 t2
  refine Q_a rfl rfl ?_
  refine Q_g rfl rfl s1 m20 ?_
  refine Q_a rfl rfl ?_
  refine Q_g rfl rfl s1 m21 ?_
  refine Q_ico rfl ?_
  refine Q_ias rfl (fun x6 i6 a6 xs6 t1 t2 t3 _ _ _ => ?_)
  cases t3
  generalize hX6 : (X5.1.set 66 (.inl (0, .inl (xs6.set i6.toNatClampNeg x6))), X5.2) = X6
  obtain ⟨w1, w2, w3⟩ := step2 X5 X6 66 _ hX6.symm (by decide) (by decide) (by decide) s1 s2 s3
  clear hX6 t1 t2
  refine Q_a rfl rfl ?_
  refine Q_dup rfl ?_
  refine Q_g rfl rfl w1 m21 ?_
  refine Q_ico rfl ?_
  refine Q_bin rfl rfl (fun p q ep eq => ?_)
  cases ep
  cases eq
  refine Q_p rfl w1 (fun hl21 => ?_)
  have l47 : 47 < X6.1.length := (List.getElem?_eq_some_iff.mp w1).1
  generalize hX7 : (X6.1.set 47 (.inr (11, fM.set 21 (.int (S + Int32.ofInt 1)))), X6.2) = X7
  have v1 : X7.1[47]? = some (.inr (11, fM.set 21 (.int (S + Int32.ofInt 1)))) := by rw [← hX7]; exact List.getElem?_set_self l47
  have v2 : X7.1[58]? = some (cAr (OW.set S.toNatClampNeg z)) := by
    rw [← hX7]
    dsimp only
    rw [List.getElem?_set_ne (by decide)]
    exact w2
  have v3 : FC h6.1 X7.1 := by rw [← hX7]; exact w3.set (by decide)
  clear hX7
  refine Q_a rfl rfl ?_
  refine Q_cv [] (.ref 47) [] rfl rfl rfl rfl (fun r9 h9 e9 => ?_)
  have c9 := w_Mcourt v1 (by rw [List.getElem?_set_ne (by decide)]; exact m7) e9
  obtain ⟨b9, rfl⟩ := ret_i (ret_ok rfl e9)
  refine Q_stw rfl (lva_all _ _ ha) (fun lv1 g4 gj gl => ?_)
  refine Q_a rfl (gj 0 (by decide)) ?_
  refine Q_gf rfl rfl (fun _ _ _ _ _ _ => ?_)
  refine Q_ico rfl ?_
  refine Q_bin rfl rfl (fun _ _ _ _ => ?_)
  refine Q_iret rfl (fun _ => Or.inr ⟨⟨S0, OW, t4, Sl, (c9 58 (by decide)).trans v2⟩, ⟨_, (c9 47 (by decide)).trans v1, ?_⟩, fun c hc => ?_⟩)
  · rw [List.getElem?_set_self hl21]
    rfl
  · exact (c9 c (fun e => hc (by rw [e]; decide))).trans (v3 c hc)
