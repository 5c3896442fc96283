/-! the Reader reads the tape -/
set_option maxRecDepth 10000 in
set_option maxHeartbeats 1000000 in
theorem r_begin {d : Nat} {g : Nat → Int} {ρ : List Nat} {l : List mC} {s : Nat} {w dp dg c wt mn : Int32} {kd : Nat} (hL : 8 < l.length) (hH : okH rI0 g ρ (l.set 8 (.inr (5, [.ref 9, .int w, .int dp, .int dg, .int c, .int wt, .int mn, .ref kd])))) (hr : rdR ρ w wt mn kd) : mR (d + 1) 23 [.ref 8] (l.set 8 (.inr (5, [.ref 9, .int w, .int dp, .int dg, .int c, .int wt, .int mn, .ref kd])), s) (fun r h' => r = none ∧ h'.1[8]? = some (.inr (5, [.ref 9, .int 0, .int 0, .int 0, .int 0, .int 1, .int 1, .ref kd]))) := by
  refine mR_ix [(0, .ref 8)] rfl rfl rfl ?_
  refine mE_aldn 1 rfl rfl rfl rfl ?_
  refine p_get rfl rfl rfl hL ?_
  refine mE_ico 5 (0) rfl rfl rfl ?_
  obtain ⟨fD, eD, lD, -⟩ := fld hH hr.2.2.2.2.2 (show rI0 10 = some (.inl (9, rOf 10)) from rfl)
  have lD : fD.length = 4 := lD
  refine mE_pf 8 rfl eD (by show (true && Nat.blt 3 fD.length) = true; rw [lD]; rfl) rfl ?_
  have hne : 8 ≠ kd := fun e => by have h1 := hr.1; have h2 := hr.2.2.2.2.2; rw [← e, h1] at h2; exact absurd h2 (by decide)
  show mE _ _ _ _ _ (8, _, _, ((l.set 8 (.inr (5, [.ref 9, .int w, .int dp, .int dg, .int c, .int wt, .int mn, .ref kd]))).set kd (.inr (9, fD.set 3 (.int 0))), s)) _
  rw [List.set_comm _ _ hne]
  have hL : 8 < (l.set kd (.inr (9, fD.set 3 (.int 0)))).length := by rw [List.length_set]; exact hL
  refine mE_aldn 9 rfl rfl rfl rfl ?_
  refine mE_ico 10 (0) rfl rfl rfl ?_
  refine p_put [.ref 9, .int 0, .int dp, .int dg, .int c, .int wt, .int mn, .ref kd] rfl rfl rfl rfl hL ?_
  refine mE_aldn 14 rfl rfl rfl rfl ?_
  refine mE_ico 15 (0) rfl rfl rfl ?_
  refine p_put [.ref 9, .int 0, .int 0, .int dg, .int c, .int wt, .int mn, .ref kd] rfl rfl rfl rfl hL ?_
  refine mE_aldn 19 rfl rfl rfl rfl ?_
  refine mE_ico 20 (0) rfl rfl rfl ?_
  refine p_put [.ref 9, .int 0, .int 0, .int 0, .int c, .int wt, .int mn, .ref kd] rfl rfl rfl rfl hL ?_
  refine mE_aldn 24 rfl rfl rfl rfl ?_
  refine mE_ico 25 (0) rfl rfl rfl ?_
  refine p_put [.ref 9, .int 0, .int 0, .int 0, .int 0, .int wt, .int mn, .ref kd] rfl rfl rfl rfl hL ?_
  refine mE_aldn 29 rfl rfl rfl rfl ?_
  refine mE_ico 30 (1) rfl rfl rfl ?_
  refine p_put [.ref 9, .int 0, .int 0, .int 0, .int 0, .int 1, .int mn, .ref kd] rfl rfl rfl rfl hL ?_
  refine mE_aldn 34 rfl rfl rfl rfl ?_
  refine mE_ico 35 (1) rfl rfl rfl ?_
  refine p_put [.ref 9, .int 0, .int 0, .int 0, .int 0, .int 1, .int 1, .ref kd] rfl rfl rfl rfl hL ?_
  exact mE_vret rfl ⟨rfl, rfl, List.getElem?_set_self hL⟩
theorem psRun_none {b : Int32} {xs : List Int32} {k : Int32} {s : PS} (e : psSt b s = none) : psRun (b :: xs) k s = k := by
  show (match psSt b s with | none => k | some s' => psRun xs (k + 1) s') = k
  rw [e]
theorem psRun_some {b : Int32} {xs : List Int32} {k : Int32} {s s' : PS} (e : psSt b s = some s') : psRun (b :: xs) k s = psRun xs (k + 1) s' := by
  show (match psSt b s with | none => k | some s' => psRun xs (k + 1) s') = _
  rw [e]
theorem drop_cons {l : List Int32} {K : Nat} {b : Int32} {xs : List Int32} (h : l.drop K = b :: xs) : l[K]? = some b ∧ l.drop (K + 1) = xs := by
  constructor
  · have := congrArg (fun z => z[0]?) h
    simpa using this
  · rw [← List.drop_drop, h]
    rfl
/-- what is asked of the tape -/
def tpOk (n : Int32) (bs : List Int32) : Prop := 0 ≤ n.toInt ∧ n.toInt ≤ 60 ∧ bs.length = 60 ∧ ∀ (k : Nat) (b : Int32), (k : Int) < n.toInt → bs[k]? = some b → 0 ≤ b.toInt ∧ b.toInt ≤ 255
theorem tp_nil {n : Int32} {bs : List Int32} (ht : tpOk n bs) {K : Nat} (h : (bs.take n.toNatClampNeg).drop K = []) : n.toInt ≤ K := by
  obtain ⟨n0, n1, hb, -⟩ := ht
  have h1 : ((bs.take n.toNatClampNeg).drop K).length = 0 := by rw [h]; rfl
  rw [List.length_drop, List.length_take, hb] at h1
  have h2 : (n.toNatClampNeg : Int) = n.toInt := by
    show ((n.toInt.toNat : Nat) : Int) = n.toInt
    omega
  omega
theorem tp_cons {n : Int32} {bs : List Int32} (ht : tpOk n bs) {K : Nat} {b : Int32} {xs : List Int32} (h : (bs.take n.toNatClampNeg).drop K = b :: xs) : (K : Int) < n.toInt ∧ bs[K]? = some b ∧ (bs.take n.toNatClampNeg).drop (K + 1) = xs ∧ 0 ≤ b.toInt ∧ b.toInt ≤ 255 := by
  obtain ⟨n0, n1, hb, hr⟩ := ht
  obtain ⟨h1, h2⟩ := drop_cons h
  have h3 : (n.toNatClampNeg : Int) = n.toInt := by
    show ((n.toInt.toNat : Nat) : Int) = n.toInt
    omega
  have hK : K < n.toNatClampNeg := by
    have := (List.getElem?_eq_some_iff.mp h1).1
    rw [List.length_take] at this
    omega
  rw [List.getElem?_take_of_lt hK] at h1
  have hK2 : (K : Int) < n.toInt := by omega
  exact ⟨hK2, h1, h2, hr K b hK2 h1⟩
set_option maxRecDepth 10000 in
set_option maxHeartbeats 1000000 in
theorem r_readL {d : Nat} (hall : CTall ci_early d) {g : Nat → Int} {ρ : List Nat} (hg : okG aBl g) (h6 : ρ[6]? = some 6) (h7 : ρ[7]? = some 7) (h8 : ρ[8]? = some 8) (h9 : ρ[9]? = some 9) {n : Int32} {bs : List Int32} (ht : tpOk n bs) : ∀ (xs : List Int32) (K : Nat) (k : Int32) (h : mS) (lv : mL) (w dp dg c wt mn : Int32) (kd : Nat), k.toInt = K → (K : Int) ≤ n.toInt → (bs.take n.toNatClampNeg).drop K = xs → okH rI0 g ρ h.1 → h.1[6]? = some (.inr (8, [.ref 7, .int n])) → h.1[7]? = some (.inl (0, .inl bs)) → h.1[8]? = some (.inr (5, [.ref 9, .int w, .int dp, .int dg, .int c, .int wt, .int mn, .ref kd])) → (lv = [(2, .int k), (0, .ref 8), (1, .ref 6)] ∨ ∃ x3 x4 : Int32, lv = [(2, .int k), (4, .int x4), (3, .int x3), (0, .ref 8), (1, .ref 6)]) → mE (mcall (d + 7)) none 5 (mgd 90 mtX5_read) (40 * xs.length + 40) (6, lv, [], h) (fun r h' => mretok (some .int) r = true ∧ r = some (.int (psRun xs k (dp, dg, c, wt, mn)))) := by
  have e1 : (1 : Int32).toInt = 1 := by decide
  have e0 : (0 : Int32).toInt = 0 := by decide
  have hall7 : CTall ci_early (d + 7) := hall.le (by omega)
  intro xs
  induction xs with
  | nil =>
    intro K k h lv w dp dg c wt mn kd hk hK hx hH e6 e7 e8 hlv
    have hn := tp_nil ht hx
    have hnk : n = k := Int32.toInt_inj.mp (by omega)
    subst hnk
    obtain ⟨n0, n1, hb, -⟩ := ht
    rcases hlv with rfl | ⟨x3, x4, rfl⟩
    all_goals
      refine mE_ildn 7 rfl rfl rfl rfl ?_
      refine mE_aldn 8 rfl rfl rfl rfl ?_
      refine mE_gf 11 rfl rfl e6 rfl rfl ?_
      refine mE_ic_ge_t 56 rfl (Int32.le_refl _) rfl ?_
      refine mE_aldn 57 rfl rfl rfl rfl ?_
      refine mE_gf 60 rfl rfl e8 rfl rfl ?_
      refine mE_if_ne rfl (fun q1 => ?_) (fun q1 => ?_)
      · refine mE_aldn 71 rfl rfl rfl rfl ?_
        refine mE_gf 74 rfl rfl e6 rfl rfl ?_
        exact mE_iret rfl ⟨rfl, by unfold psRun; rw [if_neg (fun q => q1 q.1)]⟩
      · have q1 := Classical.not_not.mp q1
        refine mE_aldn 64 rfl rfl rfl rfl ?_
        refine mE_gf 67 rfl rfl e8 rfl rfl ?_
        refine mE_if_le rfl (fun q2 => ?_) (fun q2 => ?_)
        · refine mE_aldn 76 rfl rfl rfl rfl ?_
          refine mE_ico 77 1 rfl rfl rfl ?_
          refine mE_cv [.int 1] [] rfl rfl rfl rfl e8 rfl ?_
          obtain ⟨r, hA, k1, hHA, hFA, rfl⟩ := hall7 54 _ rfl g ρ [.ref 8, .int 1] h hg hH ⟨⟨8, rfl, h8⟩, a32_ok _, trivial⟩ (fun q hq => by cases hq)
          refine ⟨_, _, k1, ?_⟩
          obtain ⟨w1, dp1, dg1, c1, wt1, mn1, kd1, f1, -, -, -, f5⟩ := rd_of hHA h8 h9
          obtain ⟨fD, eD, -, -⟩ := fld hHA f5 (show rI0 10 = some (.inl (9, rOf 10)) from rfl)
          refine mE_aldn 81 rfl rfl rfl rfl ?_
          refine mE_gf 84 rfl rfl f1 rfl rfl ?_
          refine mE_aldn 85 rfl rfl rfl rfl ?_
          refine mE_cv [.ref 6] [] rfl rfl rfl rfl eD rfl ?_
          obtain ⟨r, hB, k2, -, -, rfl⟩ := hall7 59 _ rfl g ρ [.ref kd1, .ref 6] hA hg hHA ⟨⟨kd1, rfl, f5⟩, ⟨6, rfl, h6⟩, trivial⟩ (fun q hq => by cases hq)
          refine ⟨_, _, k2, ?_⟩
          refine mE_ico 89 (-1) rfl rfl rfl ?_
          exact mE_iret rfl ⟨rfl, by unfold psRun; rw [if_pos ⟨q1, q2⟩]⟩
        · refine mE_aldn 71 rfl rfl rfl rfl ?_
          refine mE_gf 74 rfl rfl e6 rfl rfl ?_
          exact mE_iret rfl ⟨rfl, by unfold psRun; rw [if_neg (fun q => q2 q.2)]⟩
  | cons b xs ih =>
    intro K k h lv w dp dg c wt mn kd hk hK hx hH e6 e7 e8 hlv
    have hn1 := ht.2.1
    have ht := tp_cons ht hx
    have hL : 8 < h.1.length := (List.getElem?_eq_some_iff.mp e8).1
    obtain ⟨w2, dp2, dg2, c2, wt2, mn2, kd2, f1, hw, hwt, hmn, hkd⟩ := rd_of hH h8 h9
    rw [e8] at f1
    cases f1
    have kc : k.toNatClampNeg = K := by
      show k.toInt.toNat = K
      omega
    have k0 : ¬ k < 0 := fun q => by have := Int32.lt_iff_toInt_lt.mp q; omega
    have kn : ¬ n ≤ k := fun q => by have := Int32.le_iff_toInt_le.mp q; omega
    have k1i : (k + 1).toInt = k.toInt + 1 := by rw [add_id (by omega) (by omega), e1]
    have hlen : (b :: xs).length = xs.length + 1 := rfl
    rcases hlv with rfl | ⟨x3, x4, rfl⟩
    all_goals
      refine mE_ildn 7 rfl rfl rfl rfl ?_
      refine mE_aldn 8 rfl rfl rfl rfl ?_
      refine mE_gf 11 rfl rfl e6 rfl rfl ?_
      refine mE_ic_ge_f 14 rfl kn rfl ?_
      refine mE_aldn 15 rfl rfl rfl rfl ?_
      refine mE_gf 18 rfl rfl e6 rfl rfl ?_
      refine mE_ildn 19 rfl rfl rfl rfl ?_
      refine mE_ila 20 rfl e7 k0 (by rw [kc]; exact ht.2.1) rfl ?_
      refine mE_istn 21 _ rfl rfl rfl rfl ?_
      refine mE_aldn 22 rfl rfl rfl rfl ?_
      refine mE_gf 25 rfl rfl e8 rfl rfl ?_
      refine mE_if_eq rfl (fun q => ?_) (fun q => ?_)
      · refine mE_aldn 37 rfl rfl rfl rfl ?_
        refine mE_ildn 38 rfl rfl rfl rfl ?_
        refine mE_cv [.int b] [] rfl rfl rfl rfl e8 rfl ?_
        obtain ⟨r, hA, k1, hHA, hFA, v, rfl, ⟨x, rfl, -⟩, -⟩ := hall7 58 _ rfl g ρ [.ref 8, .int b] h hg hH ⟨⟨8, rfl, h8⟩, a32_ok _, trivial⟩ (fun q hq => by cases hq)
        have F := r_behd hall hg (b := b) (s := h.2) hL (by rw [set_self8 e8]; exact hH) ⟨h8, h9, hw, hwt, hmn, hkd⟩
        rw [← nf8 e8] at F
        obtain ⟨r2, hB, k2, hP⟩ := F
        have k2 := mcall_le (show d + 6 ≤ d + 7 by omega) k2
        have k1 : mcall (d + 7) 25 [.ref 8, .int b] h = some (some (.int x), hA) := k1
        rw [k1] at k2
        cases k2
        refine ⟨_, _, k1, ?_⟩
        cases hst : psBe b dp dg c wt mn with
        | none =>
          rw [hst] at hP
          have hP : some (Value.int x) = some (.int 0) := hP
          cases hP
          have e := psRun_none (xs := xs) (k := k) (show psSt b (dp, dg, c, wt, mn) = none by unfold psSt; rw [if_pos q]; exact hst)
          refine mE_ist 43 _ rfl rfl rfl rfl ?_
          refine mE_ild 45 rfl rfl rfl rfl ?_
          refine mE_if_ne_f 48 rfl (by decide) rfl ?_
          refine mE_ildn 49 rfl rfl rfl rfl ?_
          exact mE_iret rfl ⟨rfl, by rw [e]⟩
        | some s' =>
          rw [hst] at hP
          obtain ⟨hP, w', e8'⟩ := hP
          cases hP
          have e := psRun_some (xs := xs) (k := k) (show psSt b (dp, dg, c, wt, mn) = some s' by unfold psSt; rw [if_pos q]; exact hst)
          rw [e]
          refine mE_ist 43 _ rfl rfl rfl rfl ?_
          refine mE_ild 45 rfl rfl rfl rfl ?_
          refine mE_if_ne_t 50 rfl (by decide) rfl ?_
          refine mE_iinc 53 (k + 1) _ rfl rfl rfl rfl rfl rfl ?_
          refine mE_goto 6 rfl rfl ?_
          exact mE_le (ih (K + 1) (k + 1) hA _ w' s'.1 s'.2.1 s'.2.2.1 s'.2.2.2.1 s'.2.2.2.2 kd (by rw [k1i]; omega) (by omega) ht.2.2.1 hHA ((hFA.1 6 6 h6 (by decide)).trans e6) ((hFA.1 7 7 h7 (by decide)).trans e7) e8' (Or.inr ⟨b, 1, rfl⟩)) (by omega)
      · refine mE_aldn 29 rfl rfl rfl rfl ?_
        refine mE_ildn 30 rfl rfl rfl rfl ?_
        refine mE_cv [.int b] [] rfl rfl rfl rfl e8 rfl ?_
        obtain ⟨r, hA, k1, hHA, hFA, v, rfl, ⟨x, rfl, -⟩, -⟩ := hall7 51 _ rfl g ρ [.ref 8, .int b] h hg hH ⟨⟨8, rfl, h8⟩, a32_ok _, trivial⟩ (fun q hq => by cases hq)
        have F := r_opnd hall hg (b := b) (s := h.2) hL (by rw [set_self8 e8]; exact hH) ⟨h8, h9, hw, hwt, hmn, hkd⟩ ht.2.2.2.1 ht.2.2.2.2
        rw [← nf8 e8] at F
        obtain ⟨r2, hB, k2, hP⟩ := F
        have k2 := mcall_le (show d + 6 ≤ d + 7 by omega) k2
        have k1 : mcall (d + 7) 24 [.ref 8, .int b] h = some (some (.int x), hA) := k1
        rw [k1] at k2
        cases k2
        refine ⟨_, _, k1, ?_⟩
        refine mE_goto 41 rfl rfl ?_
        cases hst : psOp b dp dg c wt mn with
        | none =>
          rw [hst] at hP
          have hP : some (Value.int x) = some (.int 0) := hP
          cases hP
          have e := psRun_none (xs := xs) (k := k) (show psSt b (dp, dg, c, wt, mn) = none by unfold psSt; rw [if_neg q]; exact hst)
          refine mE_ist 43 _ rfl rfl rfl rfl ?_
          refine mE_ild 45 rfl rfl rfl rfl ?_
          refine mE_if_ne_f 48 rfl (by decide) rfl ?_
          refine mE_ildn 49 rfl rfl rfl rfl ?_
          exact mE_iret rfl ⟨rfl, by rw [e]⟩
        | some s' =>
          rw [hst] at hP
          obtain ⟨hP, w', e8'⟩ := hP
          cases hP
          have e := psRun_some (xs := xs) (k := k) (show psSt b (dp, dg, c, wt, mn) = some s' by unfold psSt; rw [if_neg q]; exact hst)
          rw [e]
          refine mE_ist 43 _ rfl rfl rfl rfl ?_
          refine mE_ild 45 rfl rfl rfl rfl ?_
          refine mE_if_ne_t 50 rfl (by decide) rfl ?_
          refine mE_iinc 53 (k + 1) _ rfl rfl rfl rfl rfl rfl ?_
          refine mE_goto 6 rfl rfl ?_
          exact mE_le (ih (K + 1) (k + 1) hA _ w' s'.1 s'.2.1 s'.2.2.1 s'.2.2.2.1 s'.2.2.2.2 kd (by rw [k1i]; omega) (by omega) ht.2.2.1 hHA ((hFA.1 6 6 h6 (by decide)).trans e6) ((hFA.1 7 7 h7 (by decide)).trans e7) e8' (Or.inr ⟨b, 1, rfl⟩)) (by omega)
set_option maxRecDepth 10000 in
set_option maxHeartbeats 1000000 in
theorem r_read {d : Nat} (hall : CTall ci_early d) {g : Nat → Int} {ρ : List Nat} (hg : okG aBl g) (h6 : ρ[6]? = some 6) (h7 : ρ[7]? = some 7) (h8 : ρ[8]? = some 8) (h9 : ρ[9]? = some 9) {n : Int32} {bs : List Int32} (ht : tpOk n bs) {h : mS} (hH : okH rI0 g ρ h.1) (e6 : h.1[6]? = some (.inr (8, [.ref 7, .int n]))) (e7 : h.1[7]? = some (.inl (0, .inl bs))) : mR (d + 8) 22 [.ref 8, .ref 6] h (fun r _ => r = some (.int (psRun (bs.take n.toNatClampNeg) 0 (0, 0, 0, 1, 1)))) := by
  have e0 : (0 : Int32).toInt = 0 := by decide
  have hall7 : CTall ci_early (d + 7) := hall.le (by omega)
  obtain ⟨w, dp, dg, c, wt, mn, kd, e8, hw, hwt, hmn, hkd⟩ := rd_of hH h8 h9
  have hL : 8 < h.1.length := (List.getElem?_eq_some_iff.mp e8).1
  refine mR_ix [(0, .ref 8), (1, .ref 6)] rfl rfl rfl ?_
  refine mE_aldn 1 rfl rfl rfl rfl ?_
  refine mE_cv [] [] rfl rfl rfl rfl e8 rfl ?_
  obtain ⟨r, hA, k1, hHA, hFA, rfl⟩ := hall7 38 _ rfl g ρ [.ref 8] h hg hH ⟨⟨8, rfl, h8⟩, trivial⟩ (fun q hq => by cases hq)
  have F := r_begin (d := d + 6) (s := h.2) hL (by rw [set_self8 e8]; exact hH) ⟨h8, h9, hw, hwt, hmn, hkd⟩
  rw [← nf8 e8] at F
  obtain ⟨r2, hB, k2, -, e8'⟩ := F
  have k1 : mcall (d + 7) 23 [.ref 8] h = some (none, hA) := k1
  rw [k1] at k2
  cases k2
  refine ⟨_, _, k1, ?_⟩
  refine mE_ico 5 0 rfl rfl rfl ?_
  refine mE_istn 6 [(2, .int 0), (0, .ref 8), (1, .ref 6)] rfl rfl rfl rfl ?_
  have hl : (bs.take n.toNatClampNeg).length ≤ 60 := by rw [List.length_take, ht.2.2.1]; omega
  exact mE_le (r_readL hall hg h6 h7 h8 h9 ht (bs.take n.toNatClampNeg) 0 0 hA _ 0 0 0 0 1 1 kd e0 (by have := ht.1; omega) rfl hHA ((hFA.1 6 6 h6 (by decide)).trans e6) ((hFA.1 7 7 h7 (by decide)).trans e7) e8' (Or.inl rfl)) (Nat.le_trans (show 40 * (bs.take n.toNatClampNeg).length + 40 ≤ 2440 by omega) (Nat.le_of_ble_eq_true rfl))
