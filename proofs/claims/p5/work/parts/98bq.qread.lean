/-! what the Reader leaves of the texts, and where it writes one -/
def fF9 (ci j : Nat) : Bool := (Nat.beq ci 9 && !Nat.beq j 3) || (Nat.beq ci 5 && Nat.beq j 7)
def S9 : List Nat := [23, 24, 25, 26, 27, 28, 29, 30, 31, 32, 33, 53, 54, 161, 162, 163, 164, 165, 166, 167, 168]
theorem fS_9 : fSet fF9 S9 = true := by decide +kernel
def FX (ρ : List Nat) (h0 h : List mC) : Prop := fk fF9 h0 h ∧ ∀ k : Nat, ρ[k]? = some 11 → h[k]? = h0[k]?
theorem FX_call {ρ md : List Nat} {h0 : List mC} {h h' : mS} {d y : Nat} {as : List Value} {r : Option Value} (a : FX ρ h0 h.1) (hy : S9.elem y = true) (e : mcall d y as h = some (r, h')) (hF : okFr ρ md h h') (hm : md.elem 11 = false) : FX ρ h0 h'.1 :=
  ⟨a.1.trans (mcall_fk fS_9 _ _ _ _ _ _ (elem_mem hy) e), fun k q => (hF.1 k 11 q (fun z => by rw [List.elem_eq_true_of_mem z] at hm; cases hm)).trans (a.2 k q)⟩
theorem p_cpy {cal : Nat → List Value → mS → Option (Option Value × mS)} {scr : Option (Nat × (Nat → Int32))} {nL : Nat} {tab : Nat → Option mI} {P : Option Value → mS → Prop} {pc b n len q2 q3 q4 a c : Nat} {lv : mL} {h : mS} {N : Int32} {xs ys : List Int32} (ht : tab pc = some (.invokestatic n, len, 4, q2, q3, q4)) (hx : h.1[a]? = some (.inl (0, .inl xs))) (hy : h.1[c]? = some (.inl (0, .inl ys))) (hN : 0 ≤ N.toInt) (h1 : N.toInt ≤ xs.length) (h2 : N.toInt ≤ ys.length) (hne : a ≠ c) (kk : mE cal scr nL tab b (pc + 3, lv, [], (h.1.set c (.inl (0, .inl (mcpyL xs ys 0 0 N.toNatClampNeg))), h.2)) P) : mE cal scr nL tab (b + 1) (pc, lv, [.int N, .int 0, .ref c, .int 0, .ref a], h) P := by
  have e0 : (0 : Int32).toInt = 0 := by decide
  have c0 : (0 : Int32).toNatClampNeg = 0 := by decide
  have hc : ¬ ((N < 0 ∨ (0 : Int32) < 0 ∨ (0 : Int32) < 0) ∨ xs.length < (0 : Int32).toNatClampNeg + N.toNatClampNeg ∨ ys.length < (0 : Int32).toNatClampNeg + N.toNatClampNeg ∨ a = c ∨ 8 < ([] : List Value).length ∨ ([] : List Value).all mone = false) := by
    have hn : (N.toNatClampNeg : Int) = N.toInt := by
      show ((N.toInt.toNat : Nat) : Int) = N.toInt
      omega
    rw [c0]
    rintro ((q | q | q) | q | q | q | q | q)
    · have := Int32.lt_iff_toInt_lt.mp q; omega
    · exact absurd q (by decide)
    · exact absurd q (by decide)
    · omega
    · omega
    · exact hne q
    · exact absurd q (by decide)
    · cases q
  refine mE_s ht ?_ kk
  show mcpy pc lv [.int N, .int 0, .ref c, .int 0, .ref a] h = _
  unfold mcpy
  simp only [hx, hy]
  rw [if_neg hc, c0]
  rfl
theorem cpy_at {bs ys : List Int32} {n j : Nat} (h1 : n ≤ bs.length) (h2 : n ≤ ys.length) (hj : j < n) : (mcpyL bs ys 0 0 n)[j]? = bs[j]? := by
  unfold mcpyL
  rw [List.getElem?_map, List.getElem?_range (by omega)]
  show some (if 0 ≤ j ∧ j < 0 + n then bs.getD (0 + (j - 0)) 0 else ys.getD j 0) = _
  rw [if_pos ⟨by omega, by omega⟩, show 0 + (j - 0) = j by omega, List.getD_eq_getElem?_getD, List.getElem?_eq_getElem (by omega)]
  rfl
theorem cpy_len {bs ys : List Int32} {n : Nat} : (mcpyL bs ys 0 0 n).length = ys.length := by
  unfold mcpyL
  rw [List.length_map, List.length_range]
set_option maxRecDepth 10000 in
set_option maxHeartbeats 1000000 in
theorem r_copy {d : Nat} {h : mS} {t t1 t2 : Nat} {sz ct n : Int32} {bs ys : List Int32} (eT : h.1[t]? = some (.inr (9, [.ref t1, .ref t2, .int sz, .int ct]))) (e6 : h.1[6]? = some (.inr (8, [.ref 7, .int n]))) (e7 : h.1[7]? = some (.inl (0, .inl bs))) (e1 : h.1[t1]? = some (.inl (0, .inl ys))) (nt6 : t ≠ 6) (nt7 : t ≠ 7) (ntt : t ≠ t1) (n17 : (7 : Nat) ≠ t1) (hb : bs.length = 60) (hy : ys.length = 60) (n0 : 0 ≤ n.toInt) (n1 : n.toInt ≤ 60) : mR (d + 1) 55 [.ref t, .ref 6] h (fun r h' => r = none ∧ h' = ((h.1.set t (.inr (9, [.ref t1, .ref t2, .int n, .int ct]))).set t1 (.inl (0, .inl (mcpyL bs ys 0 0 n.toNatClampNeg))), h.2)) := by
  have lt : t < h.1.length := (List.getElem?_eq_some_iff.mp eT).1
  have g6 : ∀ X : mC, (h.1.set t X)[6]? = some (.inr (8, [.ref 7, .int n])) := fun X => (List.getElem?_set_ne nt6).trans e6
  have g7 : ∀ X : mC, (h.1.set t X)[7]? = some (.inl (0, .inl bs)) := fun X => (List.getElem?_set_ne nt7).trans e7
  have g1 : ∀ X : mC, (h.1.set t X)[t1]? = some (.inl (0, .inl ys)) := fun X => (List.getElem?_set_ne ntt).trans e1
  have gT : (h.1.set t (.inr (9, [.ref t1, .ref t2, .int n, .int ct])))[t]? = some (.inr (9, [.ref t1, .ref t2, .int n, .int ct])) := List.getElem?_set_self lt
  refine mR_ix [(0, .ref t), (1, .ref 6)] rfl rfl rfl ?_
  refine mE_aldn 1 rfl rfl rfl rfl ?_
  refine mE_aldn 2 rfl rfl rfl rfl ?_
  refine mE_gf 5 rfl rfl e6 rfl rfl ?_
  refine mE_pf 8 rfl eT rfl rfl ?_
  show mE _ _ _ _ _ (8, _, _, (h.1.set t (.inr (9, [.ref t1, .ref t2, .int n, .int ct])), h.2)) _
  refine mE_aldn 9 rfl rfl rfl rfl ?_
  refine mE_gf 12 rfl rfl (g6 _) rfl rfl ?_
  refine mE_ico 13 0 rfl rfl rfl ?_
  refine mE_aldn 14 rfl rfl rfl rfl ?_
  refine mE_gf 17 rfl rfl gT rfl rfl ?_
  refine mE_ico 18 0 rfl rfl rfl ?_
  refine mE_aldn 19 rfl rfl rfl rfl ?_
  refine mE_gf 22 rfl rfl gT rfl rfl ?_
  refine p_cpy rfl (g7 _) (g1 _) n0 (by rw [hb]; exact n1) (by rw [hy]; exact n1) n17 ?_
  exact mE_vret rfl ⟨rfl, rfl, rfl⟩
/-- behind read: no fault: a text is written; a fault: none is -/
def RQ (ρ : List Nat) (h0 : List mC) (n : Int32) (bs : List Int32) (f : Int32) (h' : mS) : Prop := (¬ f = -1 ∧ FX ρ h0 h'.1) ∨ (f = -1 ∧ ∃ (hX : mS) (kd t1 t2 : Nat) (sz ct : Int32) (ys : List Int32), FX ρ h0 hX.1 ∧ (∃ w dp dg c wt mn : Int32, hX.1[8]? = some (.inr (5, [.ref 9, .int w, .int dp, .int dg, .int c, .int wt, .int mn, .ref kd]))) ∧ ρ[kd]? = some 10 ∧ ρ[t1]? = some 11 ∧ hX.1[kd]? = some (.inr (9, [.ref t1, .ref t2, .int sz, .int ct])) ∧ hX.1[t1]? = some (.inl (0, .inl ys)) ∧ ys.length = 60 ∧ h'.1 = (hX.1.set kd (.inr (9, [.ref t1, .ref t2, .int n, .int ct]))).set t1 (.inl (0, .inl (mcpyL bs ys 0 0 n.toNatClampNeg))))
theorem tx_of {g : Nat → Int} {ρ : List Nat} {h : List mC} {t : Nat} (hH : okH rI0 g ρ h) (ht : ρ[t]? = some 10) : ∃ (t1 t2 : Nat) (sz ct : Int32) (ys : List Int32), h[t]? = some (.inr (9, [.ref t1, .ref t2, .int sz, .int ct])) ∧ ρ[t1]? = some 11 ∧ h[t1]? = some (.inl (0, .inl ys)) ∧ ys.length = 60 := by
  obtain ⟨fs, c1, c2, c3⟩ := fld hH ht (show rI0 10 = some (.inl (9, rOf 10)) from rfl)
  obtain ⟨v0, e0, t1, rfl, r0⟩ := c3 0 (3, 11, 0) rfl
  obtain ⟨v1, e1, t2, rfl, r1⟩ := c3 1 (3, 12, 0) rfl
  obtain ⟨v2, e2, sz, rfl, -⟩ := c3 2 (0, 0, 60) rfl
  obtain ⟨v3, e3, ct, rfl, -⟩ := c3 3 (0, 0, 60) rfl
  have r0 : ρ[t1]? = some 11 := r0
  obtain ⟨cY, a1, ys, rfl, a2, -⟩ := hH.at r0 (R := .inr (.inl (0, 60, -2147483648, 2147483647))) rfl
  have c2 : fs.length = 4 := c2
  refine ⟨t1, t2, sz, ct, ys, ?_, r0, a1, a2⟩
  rw [c1]
  congr 3
  apply List.ext_getElem?
  intro i
  match i with
  | 0 => exact e0
  | 1 => exact e1
  | 2 => exact e2
  | 3 => exact e3
  | i + 4 => rw [List.getElem?_eq_none (by omega)]; rfl
set_option maxRecDepth 10000 in
set_option maxHeartbeats 1000000 in
theorem q_readL {d : Nat} (hall : CTall ci_early d) {g : Nat → Int} {ρ : List Nat} (hg : okG aBl g) (h6 : ρ[6]? = some 6) (h7 : ρ[7]? = some 7) (h8 : ρ[8]? = some 8) (h9 : ρ[9]? = some 9) {n : Int32} {bs : List Int32} (ht : tpOk n bs) (h00 : List mC) : ∀ (xs : List Int32) (K : Nat) (k : Int32) (h : mS) (lv : mL) (w dp dg c wt mn : Int32) (kd : Nat), k.toInt = K → (K : Int) ≤ n.toInt → (bs.take n.toNatClampNeg).drop K = xs → okH rI0 g ρ h.1 → h.1[6]? = some (.inr (8, [.ref 7, .int n])) → h.1[7]? = some (.inl (0, .inl bs)) → h.1[8]? = some (.inr (5, [.ref 9, .int w, .int dp, .int dg, .int c, .int wt, .int mn, .ref kd])) → FX ρ h00 h.1 → (lv = [(2, .int k), (0, .ref 8), (1, .ref 6)] ∨ ∃ x3 x4 : Int32, lv = [(2, .int k), (4, .int x4), (3, .int x3), (0, .ref 8), (1, .ref 6)]) → mE (mcall (d + 7)) none 5 (mgd 90 mtX5_read) (40 * xs.length + 40) (6, lv, [], h) (fun r h' => mretok (some .int) r = true ∧ r = some (.int (psRun xs k (dp, dg, c, wt, mn))) ∧ RQ ρ h00 n bs (psRun xs k (dp, dg, c, wt, mn)) h') := by
  have e1 : (1 : Int32).toInt = 1 := by decide
  have cm1 : (-1 : Int32).toInt = -1 := by decide
  have e0 : (0 : Int32).toInt = 0 := by decide
  have hall7 : CTall ci_early (d + 7) := hall.le (by omega)
  intro xs
  induction xs with
  | nil =>
    intro K k h lv w dp dg c wt mn kd hk hK hx hH e6 e7 e8 hX hlv
    have hn := tp_nil ht hx
    have hnk : n = k := Int32.toInt_inj.mp (by omega)
    subst hnk
    obtain ⟨n0, n1, hb, -⟩ := ht
    have kne : ¬ n = -1 := fun e => by rw [e] at n0; exact absurd n0 (by decide)
    rcases hlv with rfl | ⟨x3, x4, rfl⟩
    all_goals
      refine mE_ildn 7 rfl rfl rfl rfl ?_
      refine mE_aldn 8 rfl rfl rfl rfl ?_
      refine mE_gf 11 rfl rfl e6 rfl rfl ?_
      refine mE_ic_ge_t 56 rfl (Int32.le_refl _) rfl ?_
      refine mE_aldn 57 rfl rfl rfl rfl ?_
      refine mE_gf 60 rfl rfl e8 rfl rfl ?_
      refine mE_if_ne rfl (fun q1 => ?_) (fun q1 => ?_)
      · refine mE_aldn 71 rfl rfl rfl rfl ?_
        refine mE_gf 74 rfl rfl e6 rfl rfl ?_
        exact mE_iret rfl (by unfold psRun; rw [if_neg (fun q => q1 q.1)]; exact ⟨rfl, rfl, Or.inl ⟨kne, hX⟩⟩)
      · have q1 := Classical.not_not.mp q1
        refine mE_aldn 64 rfl rfl rfl rfl ?_
        refine mE_gf 67 rfl rfl e8 rfl rfl ?_
        refine mE_if_le rfl (fun q2 => ?_) (fun q2 => ?_)
        · refine mE_aldn 76 rfl rfl rfl rfl ?_
          refine mE_ico 77 1 rfl rfl rfl ?_
          refine mE_cv [.int 1] [] rfl rfl rfl rfl e8 rfl ?_
          obtain ⟨r, hA, k1, hHA, hFA, rfl⟩ := hall7 54 _ rfl g ρ [.ref 8, .int 1] h hg hH ⟨⟨8, rfl, h8⟩, a32_ok _, trivial⟩ (fun q hq => by cases hq)
          refine ⟨_, _, k1, ?_⟩
          have k1 : mcall (d + 7) 31 [.ref 8, .int 1] h = some (none, hA) := k1
          have hXA := FX_call hX rfl k1 hFA rfl
          obtain ⟨w1, dp1, dg1, c1, wt1, mn1, kd1, f1, -, -, -, f5⟩ := rd_of hHA h8 h9
          obtain ⟨t1, t2, sz, ct, ys, x1, x2, x3, x4⟩ := tx_of hHA f5
          have e6A := (hFA.1 6 6 h6 (by decide)).trans e6
          have e7A := (hFA.1 7 7 h7 (by decide)).trans e7
          have m1 : kd1 ≠ 6 := fun e => by rw [e, h6] at f5; exact absurd f5 (by decide)
          have m2 : kd1 ≠ 7 := fun e => by rw [e, h7] at f5; exact absurd f5 (by decide)
          have m3 : kd1 ≠ t1 := fun e => by rw [e, x2] at f5; exact absurd f5 (by decide)
          have m4 : (7 : Nat) ≠ t1 := fun e => by rw [← e, h7] at x2; exact absurd x2 (by decide)
          refine mE_aldn 81 rfl rfl rfl rfl ?_
          refine mE_gf 84 rfl rfl f1 rfl rfl ?_
          refine mE_aldn 85 rfl rfl rfl rfl ?_
          refine mE_cv [.ref 6] [] rfl rfl rfl rfl x1 rfl ?_
          obtain ⟨r, hB, k2, rfl, eB⟩ := r_copy (d := d + 6) x1 e6A e7A x3 m1 m2 m3 m4 hb x4 n0 n1
          refine ⟨_, _, k2, ?_⟩
          refine mE_ico 89 (-1) rfl rfl rfl ?_
          exact mE_iret rfl (by unfold psRun; rw [if_pos ⟨q1, q2⟩]; exact ⟨rfl, rfl, Or.inr ⟨rfl, hA, kd1, t1, t2, sz, ct, ys, hXA, ⟨w1, dp1, dg1, c1, wt1, mn1, f1⟩, f5, x2, x1, x3, x4, by rw [eB]⟩⟩)
        · refine mE_aldn 71 rfl rfl rfl rfl ?_
          refine mE_gf 74 rfl rfl e6 rfl rfl ?_
          exact mE_iret rfl (by unfold psRun; rw [if_neg (fun q => q2 q.2)]; exact ⟨rfl, rfl, Or.inl ⟨kne, hX⟩⟩)
  | cons b xs ih =>
    intro K k h lv w dp dg c wt mn kd hk hK hx hH e6 e7 e8 hX hlv
    have hn1 := ht.2.1
    have ht := tp_cons ht hx
    have hL : 8 < h.1.length := (List.getElem?_eq_some_iff.mp e8).1
    obtain ⟨w2, dp2, dg2, c2, wt2, mn2, kd2, f1, hw, hwt, hmn, hkd⟩ := rd_of hH h8 h9
    rw [e8] at f1
    cases f1
    have kc : k.toNatClampNeg = K := by
      show k.toInt.toNat = K
      omega
    have k0 : ¬ k < 0 := fun q => by have := Int32.lt_iff_toInt_lt.mp q; omega
    have kn : ¬ n ≤ k := fun q => by have := Int32.le_iff_toInt_le.mp q; omega
    have k1i : (k + 1).toInt = k.toInt + 1 := by rw [add_id (by omega) (by omega), e1]
    have hlen : (b :: xs).length = xs.length + 1 := rfl
    rcases hlv with rfl | ⟨x3, x4, rfl⟩
    all_goals
      refine mE_ildn 7 rfl rfl rfl rfl ?_
      refine mE_aldn 8 rfl rfl rfl rfl ?_
      refine mE_gf 11 rfl rfl e6 rfl rfl ?_
      refine mE_ic_ge_f 14 rfl kn rfl ?_
      refine mE_aldn 15 rfl rfl rfl rfl ?_
      refine mE_gf 18 rfl rfl e6 rfl rfl ?_
      refine mE_ildn 19 rfl rfl rfl rfl ?_
      refine mE_ila 20 rfl e7 k0 (by rw [kc]; exact ht.2.1) rfl ?_
      refine mE_istn 21 _ rfl rfl rfl rfl ?_
      refine mE_aldn 22 rfl rfl rfl rfl ?_
      refine mE_gf 25 rfl rfl e8 rfl rfl ?_
      refine mE_if_eq rfl (fun q => ?_) (fun q => ?_)
      · refine mE_aldn 37 rfl rfl rfl rfl ?_
        refine mE_ildn 38 rfl rfl rfl rfl ?_
        refine mE_cv [.int b] [] rfl rfl rfl rfl e8 rfl ?_
        obtain ⟨r, hA, k1, hHA, hFA, v, rfl, ⟨x, rfl, -⟩, -⟩ := hall7 58 _ rfl g ρ [.ref 8, .int b] h hg hH ⟨⟨8, rfl, h8⟩, a32_ok _, trivial⟩ (fun q hq => by cases hq)
        have F := r_behd hall hg (b := b) (s := h.2) hL (by rw [set_self8 e8]; exact hH) ⟨h8, h9, hw, hwt, hmn, hkd⟩
        rw [← nf8 e8] at F
        obtain ⟨r2, hB, k2, hP⟩ := F
        have k2 := mcall_le (show d + 6 ≤ d + 7 by omega) k2
        have k1 : mcall (d + 7) 25 [.ref 8, .int b] h = some (some (.int x), hA) := k1
        rw [k1] at k2
        cases k2
        refine ⟨_, _, k1, ?_⟩
        have hXA := FX_call hX rfl k1 hFA rfl
        cases hst : psBe b dp dg c wt mn with
        | none =>
          rw [hst] at hP
          have hP : some (Value.int x) = some (.int 0) := hP
          cases hP
          have e := psRun_none (xs := xs) (k := k) (show psSt b (dp, dg, c, wt, mn) = none by unfold psSt; rw [if_pos q]; exact hst)
          refine mE_ist 43 _ rfl rfl rfl rfl ?_
          refine mE_ild 45 rfl rfl rfl rfl ?_
          refine mE_if_ne_f 48 rfl (by decide) rfl ?_
          refine mE_ildn 49 rfl rfl rfl rfl ?_
          exact mE_iret rfl (by rw [e]; exact ⟨rfl, rfl, Or.inl ⟨fun z => by rw [z, cm1] at hk; omega, hXA⟩⟩)
        | some s' =>
          rw [hst] at hP
          obtain ⟨hP, w', e8'⟩ := hP
          cases hP
          have e := psRun_some (xs := xs) (k := k) (show psSt b (dp, dg, c, wt, mn) = some s' by unfold psSt; rw [if_pos q]; exact hst)
          rw [e]
          refine mE_ist 43 _ rfl rfl rfl rfl ?_
          refine mE_ild 45 rfl rfl rfl rfl ?_
          refine mE_if_ne_t 50 rfl (by decide) rfl ?_
          refine mE_iinc 53 (k + 1) _ rfl rfl rfl rfl rfl rfl ?_
          refine mE_goto 6 rfl rfl ?_
          exact mE_le (ih (K + 1) (k + 1) hA _ w' s'.1 s'.2.1 s'.2.2.1 s'.2.2.2.1 s'.2.2.2.2 kd (by rw [k1i]; omega) (by omega) ht.2.2.1 hHA ((hFA.1 6 6 h6 (by decide)).trans e6) ((hFA.1 7 7 h7 (by decide)).trans e7) e8' hXA (Or.inr ⟨b, 1, rfl⟩)) (by omega)
      · refine mE_aldn 29 rfl rfl rfl rfl ?_
        refine mE_ildn 30 rfl rfl rfl rfl ?_
        refine mE_cv [.int b] [] rfl rfl rfl rfl e8 rfl ?_
        obtain ⟨r, hA, k1, hHA, hFA, v, rfl, ⟨x, rfl, -⟩, -⟩ := hall7 51 _ rfl g ρ [.ref 8, .int b] h hg hH ⟨⟨8, rfl, h8⟩, a32_ok _, trivial⟩ (fun q hq => by cases hq)
        have F := r_opnd hall hg (b := b) (s := h.2) hL (by rw [set_self8 e8]; exact hH) ⟨h8, h9, hw, hwt, hmn, hkd⟩ ht.2.2.2.1 ht.2.2.2.2
        rw [← nf8 e8] at F
        obtain ⟨r2, hB, k2, hP⟩ := F
        have k2 := mcall_le (show d + 6 ≤ d + 7 by omega) k2
        have k1 : mcall (d + 7) 24 [.ref 8, .int b] h = some (some (.int x), hA) := k1
        rw [k1] at k2
        cases k2
        refine ⟨_, _, k1, ?_⟩
        refine mE_goto 41 rfl rfl ?_
        have hXA := FX_call hX rfl k1 hFA rfl
        cases hst : psOp b dp dg c wt mn with
        | none =>
          rw [hst] at hP
          have hP : some (Value.int x) = some (.int 0) := hP
          cases hP
          have e := psRun_none (xs := xs) (k := k) (show psSt b (dp, dg, c, wt, mn) = none by unfold psSt; rw [if_neg q]; exact hst)
          refine mE_ist 43 _ rfl rfl rfl rfl ?_
          refine mE_ild 45 rfl rfl rfl rfl ?_
          refine mE_if_ne_f 48 rfl (by decide) rfl ?_
          refine mE_ildn 49 rfl rfl rfl rfl ?_
          exact mE_iret rfl (by rw [e]; exact ⟨rfl, rfl, Or.inl ⟨fun z => by rw [z, cm1] at hk; omega, hXA⟩⟩)
        | some s' =>
          rw [hst] at hP
          obtain ⟨hP, w', e8'⟩ := hP
          cases hP
          have e := psRun_some (xs := xs) (k := k) (show psSt b (dp, dg, c, wt, mn) = some s' by unfold psSt; rw [if_neg q]; exact hst)
          rw [e]
          refine mE_ist 43 _ rfl rfl rfl rfl ?_
          refine mE_ild 45 rfl rfl rfl rfl ?_
          refine mE_if_ne_t 50 rfl (by decide) rfl ?_
          refine mE_iinc 53 (k + 1) _ rfl rfl rfl rfl rfl rfl ?_
          refine mE_goto 6 rfl rfl ?_
          exact mE_le (ih (K + 1) (k + 1) hA _ w' s'.1 s'.2.1 s'.2.2.1 s'.2.2.2.1 s'.2.2.2.2 kd (by rw [k1i]; omega) (by omega) ht.2.2.1 hHA ((hFA.1 6 6 h6 (by decide)).trans e6) ((hFA.1 7 7 h7 (by decide)).trans e7) e8' hXA (Or.inr ⟨b, 1, rfl⟩)) (by omega)
set_option maxRecDepth 10000 in
set_option maxHeartbeats 1000000 in
theorem q_read {d : Nat} (hall : CTall ci_early d) {g : Nat → Int} {ρ : List Nat} (hg : okG aBl g) (h6 : ρ[6]? = some 6) (h7 : ρ[7]? = some 7) (h8 : ρ[8]? = some 8) (h9 : ρ[9]? = some 9) {n : Int32} {bs : List Int32} (ht : tpOk n bs) {h : mS} (hH : okH rI0 g ρ h.1) (e6 : h.1[6]? = some (.inr (8, [.ref 7, .int n]))) (e7 : h.1[7]? = some (.inl (0, .inl bs))) : mR (d + 8) 22 [.ref 8, .ref 6] h (fun r h' => r = some (.int (psRun (bs.take n.toNatClampNeg) 0 (0, 0, 0, 1, 1))) ∧ RQ ρ h.1 n bs (psRun (bs.take n.toNatClampNeg) 0 (0, 0, 0, 1, 1)) h') := by
  have e0 : (0 : Int32).toInt = 0 := by decide
  have hall7 : CTall ci_early (d + 7) := hall.le (by omega)
  obtain ⟨w, dp, dg, c, wt, mn, kd, e8, hw, hwt, hmn, hkd⟩ := rd_of hH h8 h9
  have hL : 8 < h.1.length := (List.getElem?_eq_some_iff.mp e8).1
  refine mR_ix [(0, .ref 8), (1, .ref 6)] rfl rfl rfl ?_
  refine mE_aldn 1 rfl rfl rfl rfl ?_
  refine mE_cv [] [] rfl rfl rfl rfl e8 rfl ?_
  obtain ⟨r, hA, k1, hHA, hFA, rfl⟩ := hall7 38 _ rfl g ρ [.ref 8] h hg hH ⟨⟨8, rfl, h8⟩, trivial⟩ (fun q hq => by cases hq)
  have F := r_begin (d := d + 6) (s := h.2) hL (by rw [set_self8 e8]; exact hH) ⟨h8, h9, hw, hwt, hmn, hkd⟩
  rw [← nf8 e8] at F
  obtain ⟨r2, hB, k2, -, e8'⟩ := F
  have k1 : mcall (d + 7) 23 [.ref 8] h = some (none, hA) := k1
  rw [k1] at k2
  cases k2
  refine ⟨_, _, k1, ?_⟩
  refine mE_ico 5 0 rfl rfl rfl ?_
  refine mE_istn 6 [(2, .int 0), (0, .ref 8), (1, .ref 6)] rfl rfl rfl rfl ?_
  have hl : (bs.take n.toNatClampNeg).length ≤ 60 := by rw [List.length_take, ht.2.2.1]; omega
  exact mE_le (q_readL hall hg h6 h7 h8 h9 ht h.1 (bs.take n.toNatClampNeg) 0 0 hA _ 0 0 0 0 1 1 kd e0 (by have := ht.1; omega) rfl hHA ((hFA.1 6 6 h6 (by decide)).trans e6) ((hFA.1 7 7 h7 (by decide)).trans e7) e8' (FX_call ⟨fk_refl, fun _ _ => rfl⟩ rfl k1 hFA rfl) (Or.inl rfl)) (Nat.le_trans (show 40 * (bs.take n.toNatClampNeg).length + 40 ≤ 2440 by omega) (Nat.le_of_ble_eq_true rfl))
