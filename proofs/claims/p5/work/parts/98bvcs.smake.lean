/-! make of the class, with steps -/
theorem acc_run : ∀ (xs : List Int32) (k : Int32) (ps : PS) (P W : List Int32), 0 ≤ k.toInt → k.toInt + xs.length ≤ 1000 → psRun xs k ps = -1 → ∃ τ : RSt, rdS xs (ps, P, W) = some τ ∧ τ.1.2.2.2.1 = 0 ∧ τ.1.1 ≤ 0 := by
  intro xs
  have cm : (-1 : Int32).toInt = -1 := by decide
  have c1 : (1 : Int32).toInt = 1 := by decide
  induction xs with
  | nil =>
    intro k ps P W h0 hl h
    have h : (if ps.2.2.2.1 = 0 ∧ ps.1 ≤ 0 then -1 else k) = -1 := h
    by_cases q : ps.2.2.2.1 = 0 ∧ ps.1 ≤ 0
    · exact ⟨_, rfl, q.1, q.2⟩
    · rw [if_neg q] at h
      rw [h] at h0
      omega
  | cons b xs ih =>
    intro k ps P W h0 hl h
    simp only [List.length_cons] at hl
    cases hs : psSt b ps with
    | none =>
      rw [psRun_none hs] at h
      rw [h] at h0
      omega
    | some ps' =>
      rw [psRun_some hs] at h
      have hk : (k + 1).toInt = k.toInt + 1 := by rw [add_id (by omega) (by omega), c1]
      obtain ⟨τ, e1, e2, e3⟩ := ih (k + 1) ps' (rdPW b ps P W).1 (rdPW b ps P W).2 (by omega) (by omega) h
      refine ⟨τ, ?_, e2, e3⟩
      show (rdB b (ps, P, W)).bind (rdS xs) = some τ
      unfold rdB
      dsimp only
      rw [hs]
      exact e1
theorem acc_fl {n : Int32} {bs : List Int32} (ht : tpOk n bs) (h : flT n bs = -1) : ∃ τ : RSt, rdS (bs.take n.toNatClampNeg) ((0, 0, 0, 1, 1), [], []) = some τ ∧ τ.1.2.2.2.1 = 0 ∧ τ.1.1 ≤ 0 := acc_run _ 0 _ [] [] (by decide) (by
  rw [List.length_take]
  have := ht.2.2.1
  have c0 : (0 : Int32).toInt = 0 := rfl
  omega) h
set_option maxRecDepth 10000 in
set_option maxHeartbeats 1000000 in
theorem e_enact {d : Nat} (hall : CTall ci_early d) {g : Nat → Int} {ρ : List Nat} (hg : okG aBl g) {h : mS} (hH : okH rI0 g ρ h.1) (hρ : ρ.take 78 = ρ00) {x y : Int32} {Q : Nat} (hQ : Q < 3) (hxQ : x.toInt = Q) {n : Int32} {bs : List Int32} (ht : tpOk n bs) (e6 : h.1[6]? = some (.inr (8, [.ref 7, .int n]))) (e7 : h.1[7]? = some (.inl (0, .inl bs))) {A B : Nat → Nat} {WT FR : Nat → Int32} (hl : lwH h.1 A B WT FR) (h5 : h.1[5]? = some (.inl (5, .inr [some 26, some 33, some 40]))) {kd : Nat} (hkd : kd ∈ T7) (hdr : drf h.1 kd) (hTx : ∃ sz b2, Tx h.1 kd sz b2) : mR (d + 10) 81 [.ref 0, .int x, .int y] h (fun _ h' => ∃ (r : Option Value) (hA : mS), mcall (d + 9) 22 [.ref 8, .ref 6] h = some (r, hA) ∧ ∀ t ∈ T7, h'.1[t]? = hA.1[t]? ∧ h'.1[t + 1]? = hA.1[t + 1]? ∧ h'.1[t + 2]? = hA.1[t + 2]?) := by
  have r0 : ρ[0]? = some 0 := at_rho hρ (by decide) rfl
  have r5 : ρ[5]? = some 5 := at_rho hρ (by decide) rfl
  have r6 : ρ[6]? = some 6 := at_rho hρ (by decide) rfl
  have r7 : ρ[7]? = some 7 := at_rho hρ (by decide) rfl
  have r8 : ρ[8]? = some 8 := at_rho hρ (by decide) rfl
  have r9 : ρ[9]? = some 9 := at_rho hρ (by decide) rfl
  have r24 : ∀ q : Nat, q < 3 → ρ[26 + 7 * q]? = some 24 := fun q hq => by
    match q, hq with
    | 0, _ => exact at_rho hρ (by decide) rfl
    | 1, _ => exact at_rho hρ (by decide) rfl
    | 2, _ => exact at_rho hρ (by decide) rfl
    | q + 3, hq => omega
  have hpsQ : ([some 26, some 33, some 40] : List (Option Nat))[Q]? = some (some (26 + 7 * Q)) := by
    match Q, hQ with
    | 0, _ => rfl
    | 1, _ => rfl
    | 2, _ => rfl
    | q + 3, hq => omega
  have c0 : (0 : Int32).toInt = 0 := by decide
  have hall9 : CTall ci_early (d + 9) := hall.le (by omega)
  obtain ⟨f0, nw, e0, ⟨f5, f6, f4, f12⟩, hnw⟩ := cx_C hH hρ
  obtain ⟨w, dp, dg, c, wt, mn, e8⟩ := id hdr
  obtain ⟨tk, tk1, tk2⟩ := t7_r hρ hkd
  have xnn : ¬ x < 0 := nn_of hxQ
  have xc : x.toNatClampNeg = Q := nc_of hxQ
  refine mR_ix [(0, .ref 0), (1, .int x), (2, .int y)] rfl rfl rfl ?_
  refine mE_aldn 1 rfl rfl rfl rfl ?_
  refine mE_gf 4 rfl rfl e0 f6 rfl ?_
  refine mE_aldn 5 rfl rfl rfl rfl ?_
  refine mE_gf 8 rfl rfl e0 f5 rfl ?_
  refine mE_cv [.ref 6] [] rfl rfl rfl rfl e8 rfl ?_
  obtain ⟨r, hA, k1, hHA, hFA, v, rfl, ⟨f, rfl, -⟩, -⟩ := hall9 60 _ rfl g ρ [.ref 8, .ref 6] h hg hH ⟨⟨8, rfl, r8⟩, ⟨6, rfl, r6⟩, trivial⟩ (fun q hq => by cases hq)
  have k1 : mcall (d + 9) 22 [.ref 8, .ref 6] h = some (some (.int f), hA) := k1
  obtain ⟨r2, hB, k2, hf, hRQ⟩ := q_read hall hg r6 r7 r8 r9 ht hH e6 e7
  have k2 := mcall_le (show d + 8 ≤ d + 9 by omega) k2
  rw [k1] at k2
  cases k2
  have hf : some (Value.int f) = some (.int (flT n bs)) := hf
  cases hf
  have hRQ : RQ ρ h.1 n bs (flT n bs) hA := hRQ
  refine ⟨_, _, k1, ?_⟩
  have lwA : ∀ q : Nat, q < 3 → hA.1[26 + 7 * q]? = h.1[26 + 7 * q]? := fun q hq => hFA.1 _ 24 (r24 q hq) (by decide)
  refine mE_istn 12 [(3, .int (flT n bs)), (0, .ref 0), (1, .int x), (2, .int y)] rfl rfl rfl rfl ?_
  refine mE_ildn 13 rfl rfl rfl rfl ?_
  refine mE_ico 14 (-1) rfl rfl rfl ?_
  refine mE_ic_eq rfl (fun q => ?_) (fun q => ?_)
  rotate_left
  · refine mE_bip 19 (-10) rfl rfl rfl ?_
    refine mE_ildn 20 rfl rfl rfl rfl ?_
    refine mE_ico 21 1 rfl rfl rfl ?_
    refine mE_iadd 22 (flT n bs + 1) rfl rfl rfl ?_
    refine mE_imul 23 (-10 * (flT n bs + 1)) rfl rfl rfl ?_
    exact mE_iret rfl ⟨rfl, _, _, k1, fun t ht => ⟨rfl, rfl, rfl⟩⟩
  rcases hRQ with ⟨z, -⟩ | ⟨-, hX, kd', t1, t2, sz, ct, ys, hFX, hdX, rk, rt1, x1, x3, x4, eA⟩
  · exact absurd q z
  -- the draft is kd
  obtain ⟨szk, bk, hTk⟩ := hTx
  obtain ⟨ctk, tk3, tk4⟩ := hTk
  obtain ⟨wX, dpX, dgX, cX, wtX, mnX, eX8⟩ := hdX
  have hkk : kd' = kd := by
    obtain ⟨fs', c1, c2⟩ := hFX.1 8 5 _ e8
    rw [eX8] at c1
    cases c1
    have c2 : some (Value.ref kd') = some (.ref kd) := c2 7 rfl
    cases c2
    rfl
  subst hkk
  have ht12 : t1 = kd' + 1 ∧ t2 = kd' + 2 := by
    obtain ⟨fs', c1, c2⟩ := hFX.1 kd' 9 _ tk3
    rw [x1] at c1
    cases c1
    have c3 : some (Value.ref t1) = some (.ref (kd' + 1)) := c2 0 rfl
    have c4 : some (Value.ref t2) = some (.ref (kd' + 2)) := c2 1 rfl
    cases c3
    cases c4
    exact ⟨rfl, rfl⟩
  obtain ⟨rfl, rfl⟩ := ht12
  have neX : ∀ (k r : Nat), ρ[k]? = some r → r ≠ 10 → r ≠ 11 → hA.1[k]? = hX.1[k]? := fun k r z1 z2 z3 => by
    rw [eA, List.getElem?_set_ne (fun e => by subst e; rw [rt1] at z1; cases z1; exact z3 rfl), List.getElem?_set_ne (fun e => by subst e; rw [rk] at z1; cases z1; exact z2 rfl)]
  have lX : kd' < hX.1.length := (List.getElem?_eq_some_iff.mp x1).1
  have lX1 : kd' + 1 < hX.1.length := (List.getElem?_eq_some_iff.mp x3).1
  have e8A : hA.1[8]? = some (.inr (5, [.ref 9, .int wX, .int dpX, .int dgX, .int cX, .int wtX, .int mnX, .ref kd'])) := (neX 8 8 r8 (by decide) (by decide)).trans eX8
  have TxA : ∀ t ∈ T7, t ≠ kd' → ∀ (sz : Int32) (b2 : List Int32), Tx h.1 t sz b2 → Tx hA.1 t sz b2 := by
    intro t ht hne sz b2 a
    obtain ⟨z1, z2, -⟩ := t7_r hρ ht
    obtain ⟨ct2, a1, a2⟩ := a
    obtain ⟨fs', c1, c2⟩ := hFX.1 t 9 _ a1
    refine tx_mk hHA z1 (fs := fs') ?_ (c2 0 rfl) (c2 1 rfl) (c2 2 rfl) ?_
    · rw [eA, List.getElem?_set_ne (fun e => by rw [e, z1] at rt1; exact absurd rt1 (by decide)), List.getElem?_set_ne (fun e => hne e.symm)]
      exact c1
    · rw [eA, List.getElem?_set_ne (fun e => hne (by omega)), List.getElem?_set_ne (fun e => by rw [e, z2] at rk; exact absurd rk (by decide))]
      exact (hFX.2 _ z2).trans a2
  have TxK : Tx hA.1 kd' n (mcpyL bs ys 0 0 n.toNatClampNeg) := by
    refine ⟨ct, ?_, ?_⟩
    · rw [eA, List.getElem?_set_ne (by omega)]
      exact List.getElem?_set_self lX
    · rw [eA]
      exact List.getElem?_set_self (by rw [List.length_set]; exact lX1)
  have e0A : hA.1[0]? = some (.inr (10, f0)) := (hFA.1 0 0 r0 (by decide)).trans e0
  have e5A : hA.1[5]? = some (.inl (5, .inr [some 26, some 33, some 40])) := (hFA.1 5 5 r5 (by decide)).trans h5
  have e6A : hA.1[6]? = some (.inr (8, [.ref 7, .int n])) := (hFA.1 6 6 r6 (by decide)).trans e6
  have eLA : hA.1[26 + 7 * Q]? = some (lwC (A Q) (B Q) (WT Q) (FR Q)) := (lwA Q hQ).trans (hl Q hQ)
  have lK : 26 + 7 * Q < hA.1.length := (List.getElem?_eq_some_iff.mp eLA).1
  have l8 : 8 < hA.1.length := (List.getElem?_eq_some_iff.mp e8A).1
  refine mE_aldn 25 rfl rfl rfl rfl ?_
  refine mE_gf 28 rfl rfl e0A f6 rfl ?_
  refine mE_aldn 29 rfl rfl rfl rfl ?_
  refine mE_gf 32 rfl rfl e0A f4 rfl ?_
  refine mE_ildn 33 rfl rfl rfl rfl ?_
  refine mE_qla 34 rfl e5A rfl xnn (by rw [xc]; exact hpsQ) rfl ?_
  refine mE_aldn 35 rfl rfl rfl rfl ?_
  refine mE_gf 38 rfl rfl e0A f6 rfl ?_
  refine mE_gf 41 rfl rfl e8A rfl rfl ?_
  refine mE_ildn 42 rfl rfl rfl rfl ?_
  refine mE_cv [.ref kd', .int y] [.ref 8] rfl rfl rfl rfl eLA rfl ?_
  obtain ⟨r, hB, k2, rfl, eB⟩ := r_ann (d := d + 8) (kd := kd') (y := y) eLA
  subst eB
  refine ⟨_, _, k2, ?_⟩
  have n8 : (26 + 7 * Q) ≠ 8 := by omega
  have n0' : (26 + 7 * Q) ≠ 0 := by omega
  have n5 : (26 + 7 * Q) ≠ 5 := by omega
  have n6 : (26 + 7 * Q) ≠ 6 := by omega
  have e8B : (hA.1.set (26 + 7 * Q) (lwC (A Q) kd' 1 y))[8]? = some (.inr (5, [.ref 9, .int wX, .int dpX, .int dgX, .int cX, .int wtX, .int mnX, .ref kd'])) := (List.getElem?_set_ne n8).trans e8A
  refine mE_pf 48 rfl e8B rfl rfl ?_
  show mE _ _ _ _ _ (48, _, _, ((hA.1.set (26 + 7 * Q) (lwC (A Q) kd' 1 y)).set 8 (.inr (5, [.ref 9, .int wX, .int dpX, .int dgX, .int cX, .int wtX, .int mnX, .ref (B Q)])), hA.2)) _
  have gg : ∀ (k : Nat), k ≠ 8 → k ≠ 26 + 7 * Q → ((hA.1.set (26 + 7 * Q) (lwC (A Q) kd' 1 y)).set 8 (.inr (5, [.ref 9, .int wX, .int dpX, .int dgX, .int cX, .int wtX, .int mnX, .ref (B Q)])))[k]? = hA.1[k]? := fun k z1 z2 => (List.getElem?_set_ne (fun e => z1 e.symm)).trans (List.getElem?_set_ne (fun e => z2 e.symm))
  have eLC : ((hA.1.set (26 + 7 * Q) (lwC (A Q) kd' 1 y)).set 8 (.inr (5, [.ref 9, .int wX, .int dpX, .int dgX, .int cX, .int wtX, .int mnX, .ref (B Q)])))[26 + 7 * Q]? = some (lwC (A Q) kd' 1 y) := (List.getElem?_set_ne (fun e => n8 e.symm)).trans (List.getElem?_set_self lK)
  refine mE_aldn 49 rfl rfl rfl rfl ?_
  refine mE_gf 52 rfl rfl ((gg 0 (by decide) (fun e => n0' e.symm)).trans e0A) f4 rfl ?_
  refine mE_ildn 53 rfl rfl rfl rfl ?_
  refine mE_qla 54 rfl ((gg 5 (by decide) (fun e => n5 e.symm)).trans e5A) rfl xnn (by rw [xc]; exact hpsQ) rfl ?_
  refine mE_aldn 55 rfl rfl rfl rfl ?_
  refine mE_gf 58 rfl rfl ((gg 0 (by decide) (fun e => n0' e.symm)).trans e0A) f12 rfl ?_
  refine mE_cv [.int nw] [] rfl rfl rfl rfl eLC rfl ?_
  obtain ⟨r, hD, k3, rfl, eD⟩ := r_reach (d := d + 8) (h := ((hA.1.set (26 + 7 * Q) (lwC (A Q) kd' 1 y)).set 8 (.inr (5, [.ref 9, .int wX, .int dpX, .int dgX, .int cX, .int wtX, .int mnX, .ref (B Q)])), hA.2)) (w := nw) eLC
  refine ⟨_, _, k3, ?_⟩
  rw [hnw] at eD
  have gD : ∀ (k : Nat), k ≠ 8 → k ≠ 26 + 7 * Q → hD.1[k]? = hA.1[k]? := fun k z1 z2 => by
    rw [eD]
    exact (List.getElem?_set_ne (fun e => z2 e.symm)).trans (gg k z1 z2)
  have gD8 : hD.1[8]? = some (.inr (5, [.ref 9, .int wX, .int dpX, .int dgX, .int cX, .int wtX, .int mnX, .ref (B Q)])) := by
    rw [eD]
    exact (List.getElem?_set_ne n8).trans (List.getElem?_set_self (by rw [List.length_set]; exact l8))
  have gDL : hD.1[26 + 7 * Q]? = some (rc (g 2) (A Q) kd' 1 y) := by
    rw [eD]
    exact List.getElem?_set_self (by rw [List.length_set, List.length_set]; exact lK)
  have e6D : hD.1[6]? = some (.inr (8, [.ref 7, .int n])) := (gD 6 (by decide) (fun e => n6 e.symm)).trans e6A
  refine mE_aldn 62 rfl rfl rfl rfl ?_
  refine mE_gf 65 rfl rfl ((gD 0 (by decide) (fun e => n0' e.symm)).trans e0A) f5 rfl ?_
  refine mE_ico 66 0 rfl rfl rfl ?_
  refine mE_pf 69 rfl e6D rfl rfl ?_
  refine mE_ico 70 0 rfl rfl rfl ?_
  have gE : ∀ k : Nat, k ≠ 6 → (hD.1.set 6 (.inr (8, [.ref 7, .int 0])))[k]? = hD.1[k]? := fun k z => List.getElem?_set_ne (fun e => z e.symm)
  have kne : ∀ t ∈ T7, (t ≠ 6 ∧ t + 1 ≠ 6 ∧ t + 2 ≠ 6) ∧ (t ≠ 8 ∧ t + 1 ≠ 8 ∧ t + 2 ≠ 8) ∧ (t ≠ 26 + 7 * Q ∧ t + 1 ≠ 26 + 7 * Q ∧ t + 2 ≠ 26 + 7 * Q) := by
    intro t ht
    have h10 := (t7_r hρ ht).1
    have h11 := (t7_r hρ ht).2.1
    have hQ24 := r24 Q hQ
    have h12 := (t7_r hρ ht).2.2
    refine ⟨⟨fun e => ?_, fun e => ?_, fun e => ?_⟩, ⟨fun e => ?_, fun e => ?_, fun e => ?_⟩, fun e => ?_, fun e => ?_, fun e => ?_⟩
    · rw [e, r6] at h10; exact absurd h10 (by decide)
    · rw [e, r6] at h11; exact absurd h11 (by decide)
    · rw [e, r6] at h12; exact absurd h12 (by decide)
    · rw [e, r8] at h10; exact absurd h10 (by decide)
    · rw [e, r8] at h11; exact absurd h11 (by decide)
    · rw [e, r8] at h12; exact absurd h12 (by decide)
    · rw [e, hQ24] at h10; exact absurd h10 (by decide)
    · rw [e, hQ24] at h11; exact absurd h11 (by decide)
    · rw [e, hQ24] at h12; exact absurd h12 (by decide)
  refine mE_iret rfl ⟨rfl, _, _, k1, fun t ht => ?_⟩
  obtain ⟨⟨z1, z2, z3⟩, ⟨z4, z5, z6⟩, z7, z8, z9⟩ := kne t ht
  exact ⟨(gE _ z1).trans (gD _ z4 z7), (gE _ z2).trans (gD _ z5 z8), (gE _ z3).trans (gD _ z6 z9)⟩
