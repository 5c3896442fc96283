/-! the Reader's stack and steps -/
def rH5 (l : List mC) (s0 kd : Nat) (c8 c9 ck cs : mC) : mS := ((((l.set 8 c8).set 9 c9).set kd ck).set (kd + 2) cs, s0)
def kdOk (l : List mC) (kd : Nat) : Prop := 9 < kd ∧ kd + 2 < l.length
section RSL
variable {l : List mC} {s0 kd : Nat} {c8 c9 ck cs c : mC}
theorem rH5_8 (hk : kdOk l kd) : (rH5 l s0 kd c8 c9 ck cs).1[8]? = some c8 := by
  obtain ⟨h1, h2⟩ := hk
  unfold rH5
  rw [List.getElem?_set_ne (by omega), List.getElem?_set_ne (by omega), List.getElem?_set_ne (by omega), List.getElem?_set_self (by omega)]
theorem rH5_9 (hk : kdOk l kd) : (rH5 l s0 kd c8 c9 ck cs).1[9]? = some c9 := by
  obtain ⟨h1, h2⟩ := hk
  unfold rH5
  rw [List.getElem?_set_ne (by omega), List.getElem?_set_ne (by omega), List.getElem?_set_self (by rw [List.length_set]; omega)]
theorem rH5_k (hk : kdOk l kd) : (rH5 l s0 kd c8 c9 ck cs).1[kd]? = some ck := by
  obtain ⟨h1, h2⟩ := hk
  unfold rH5
  rw [List.getElem?_set_ne (by omega), List.getElem?_set_self (by rw [List.length_set, List.length_set]; omega)]
theorem rH5_s (hk : kdOk l kd) : (rH5 l s0 kd c8 c9 ck cs).1[kd + 2]? = some cs := by
  obtain ⟨h1, h2⟩ := hk
  unfold rH5
  rw [List.getElem?_set_self (by rw [List.length_set, List.length_set, List.length_set]; omega)]
theorem rH5_o {j : Nat} (h1 : j ≠ 8) (h2 : j ≠ 9) (h3 : j ≠ kd) (h4 : j ≠ kd + 2) : (rH5 l s0 kd c8 c9 ck cs).1[j]? = l[j]? := by
  unfold rH5
  rw [List.getElem?_set_ne (fun e => h4 e.symm), List.getElem?_set_ne (fun e => h3 e.symm), List.getElem?_set_ne (fun e => h2 e.symm), List.getElem?_set_ne (fun e => h1 e.symm)]
theorem rH5_8s (hk : kdOk l kd) : ((rH5 l s0 kd c8 c9 ck cs).1.set 8 c, (rH5 l s0 kd c8 c9 ck cs).2) = rH5 l s0 kd c c9 ck cs := by
  obtain ⟨h1, h2⟩ := hk
  unfold rH5
  dsimp only
  rw [List.set_comm _ _ (show kd + 2 ≠ 8 by omega), List.set_comm _ _ (show kd ≠ 8 by omega), List.set_comm _ _ (show (9 : Nat) ≠ 8 by decide), List.set_set]
theorem rH5_9s (hk : kdOk l kd) : ((rH5 l s0 kd c8 c9 ck cs).1.set 9 c, (rH5 l s0 kd c8 c9 ck cs).2) = rH5 l s0 kd c8 c ck cs := by
  obtain ⟨h1, h2⟩ := hk
  unfold rH5
  dsimp only
  rw [List.set_comm _ _ (show kd + 2 ≠ 9 by omega), List.set_comm _ _ (show kd ≠ 9 by omega), List.set_set]
theorem rH5_ks (hk : kdOk l kd) : ((rH5 l s0 kd c8 c9 ck cs).1.set kd c, (rH5 l s0 kd c8 c9 ck cs).2) = rH5 l s0 kd c8 c9 c cs := by
  unfold rH5
  dsimp only
  rw [List.set_comm _ _ (show kd + 2 ≠ kd by omega), List.set_set]
theorem rH5_ss (hk : kdOk l kd) : ((rH5 l s0 kd c8 c9 ck cs).1.set (kd + 2) c, (rH5 l s0 kd c8 c9 ck cs).2) = rH5 l s0 kd c8 c9 ck c := by
  unfold rH5
  dsimp only
  rw [List.set_set]
end RSL
abbrev cRd (ps : PS) (n : Nat) (kd : Nat) : mC := .inr (5, [.ref 9, .int (Int32.ofNat n), .int ps.1, .int ps.2.1, .int ps.2.2.1, .int ps.2.2.2.1, .int ps.2.2.2.2, .ref kd])
abbrev cAr (xs : List Int32) : mC := .inl (0, .inl xs)
abbrev cTx (kd : Nat) (sz : Int32) (n : Nat) : mC := .inr (9, [.ref (kd + 1), .ref (kd + 2), .int sz, .int (Int32.ofNat n)])
/-- the Reader stands at ps, its steps are P, what waits is W -/
def RS (l : List mC) (s0 kd : Nat) (sz : Int32) (ps : PS) (P W : List Int32) (h : mS) : Prop := ∃ R1 R2 : List Int32, P.length + R1.length = 60 ∧ W.length + R2.length = 60 ∧ h = rH5 l s0 kd (cRd ps W.length kd) (cAr (W.reverse ++ R2)) (cTx kd sz P.length) (cAr (P ++ R1))
section RSM
variable {l : List mC} {s0 kd d : Nat} {sz : Int32} {ps : PS} {P W : List Int32} {h : mS}
set_option maxRecDepth 10000 in
set_option maxHeartbeats 1000000 in
theorem s_addStep (hk : kdOk l kd) (hR : RS l s0 kd sz ps P W h) (hP : P.length < 60) (x : Int32) : mR (d + 1) 53 [.ref kd, .int x] h (fun r h' => r = none ∧ RS l s0 kd sz ps (P ++ [x]) W h') := by
  obtain ⟨R1, R2, e1, e2, rfl⟩ := hR
  have aP := ofN (n := P.length) (by omega)
  have c1 : (1 : Int32).toInt = 1 := by decide
  have c60 : (60 : Int32).toInt = 60 := by decide
  cases R1 with
  | nil => simp at e1; omega
  | cons r0 R1 =>
    refine mR_ix [(0, .ref kd), (1, .int x)] rfl rfl rfl ?_
    refine mE_aldn 1 rfl rfl rfl rfl ?_
    refine mE_gf 4 rfl rfl (rH5_k hk) rfl rfl ?_
    refine mE_bip 6 60 rfl rfl rfl ?_
    refine mE_ic_ge_f 9 rfl (fun q => by have := Int32.le_iff_toInt_le.mp q; omega) rfl ?_
    refine mE_aldn 10 rfl rfl rfl rfl ?_
    refine mE_gf 13 rfl rfl (rH5_k hk) rfl rfl ?_
    refine mE_aldn 14 rfl rfl rfl rfl ?_
    refine mE_gf 17 rfl rfl (rH5_k hk) rfl rfl ?_
    refine mE_ildn 18 rfl rfl rfl rfl ?_
    refine mE_isa 19 P.length rfl (rH5_s hk) (nc_of aP) (fun q => by
      rcases q with q | q
      · exact nn_of aP q
      · simp at q; omega) rfl ?_
    rw [rH5_ss hk, setm rfl]
    refine mE_aldn 20 rfl rfl rfl rfl ?_
    refine mE_dup 21 rfl rfl rfl ?_
    refine mE_gf 24 rfl rfl (rH5_k hk) rfl rfl ?_
    refine mE_ico 25 1 rfl rfl rfl ?_
    refine mE_iadd 26 (Int32.ofNat (P.length + 1)) rfl (Int32.toInt_inj.mp (by rw [add_id (by omega) (by omega), aP, c1, ofN (by omega)]; rfl)) rfl ?_
    refine mE_pf 29 rfl (rH5_k hk) rfl rfl ?_
    rw [rH5_ks hk]
    refine mE_vret rfl ⟨rfl, rfl, R1, R2, by simp at e1 ⊢; omega, e2, ?_⟩
    show rH5 _ _ _ _ _ (cTx kd sz (P.length + 1)) (cAr (P ++ x :: R1)) = _
    rw [List.length_append, List.append_assoc]
    rfl
set_option maxRecDepth 10000 in
set_option maxHeartbeats 1000000 in
theorem s_addDigit (hk : kdOk l kd) {p : Int32} (hR : RS l s0 kd sz ps (P ++ [p]) W h) (x : Int32) : mR (d + 1) 54 [.ref kd, .int x] h (fun r h' => r = none ∧ RS l s0 kd sz ps (P ++ [10 * p + x]) W h') := by
  obtain ⟨R1, R2, e1, e2, rfl⟩ := hR
  have hl : (P ++ [p]).length = P.length + 1 := by simp
  have aP := ofN (n := (P ++ [p]).length) (by omega)
  have c1 : (1 : Int32).toInt = 1 := by decide
  have c0 : (0 : Int32).toInt = 0 := by decide
  have hs : (Int32.ofNat (P ++ [p]).length - 1).toInt = P.length := by rw [sub_id (by omega) (by omega), aP, c1]; omega
  generalize hsg : Int32.ofNat (P ++ [p]).length - 1 = i at hs
  have hap : P ++ [p] ++ R1 = P ++ p :: R1 := by simp
  refine mR_ix [(0, .ref kd), (1, .int x)] rfl rfl rfl ?_
  refine mE_aldn 1 rfl rfl rfl rfl ?_
  refine mE_gf 4 rfl rfl (rH5_k hk) rfl rfl ?_
  refine mE_if_le_f 7 rfl (fun q => by have := Int32.le_iff_toInt_le.mp q; omega) rfl ?_
  refine mE_aldn 8 rfl rfl rfl rfl ?_
  refine mE_gf 11 rfl rfl (rH5_k hk) rfl rfl ?_
  refine mE_aldn 12 rfl rfl rfl rfl ?_
  refine mE_gf 15 rfl rfl (rH5_k hk) rfl rfl ?_
  refine mE_ico 16 1 rfl rfl rfl ?_
  refine mE_isub 17 i rfl hsg rfl ?_
  refine mE_bip 19 10 rfl rfl rfl ?_
  refine mE_aldn 20 rfl rfl rfl rfl ?_
  refine mE_gf 23 rfl rfl (rH5_k hk) rfl rfl ?_
  refine mE_aldn 24 rfl rfl rfl rfl ?_
  refine mE_gf 27 rfl rfl (rH5_k hk) rfl rfl ?_
  refine mE_ico 28 1 rfl rfl rfl ?_
  refine mE_isub 29 i rfl hsg rfl ?_
  refine mE_ila 30 rfl (rH5_s hk) (nn_of hs) (by rw [nc_of hs, hap]; exact getm rfl) rfl ?_
  refine mE_imul 31 (10 * p) rfl rfl rfl ?_
  refine mE_ildn 32 rfl rfl rfl rfl ?_
  refine mE_iadd 33 (10 * p + x) rfl rfl rfl ?_
  refine mE_isa 34 P.length rfl (rH5_s hk) (nc_of hs) (fun q => by
    rcases q with q | q
    · exact nn_of hs q
    · simp at q; omega) rfl ?_
  rw [rH5_ss hk, hap, setm rfl]
  refine mE_vret rfl ⟨rfl, rfl, R1, R2, by simp at e1 ⊢; omega, e2, ?_⟩
  have h2 : (P ++ [10 * p + x]).length = (P ++ [p]).length := by simp
  rw [h2, List.append_assoc]
  rfl
set_option maxRecDepth 10000 in
set_option maxHeartbeats 1000000 in
theorem s_letWait (hk : kdOk l kd) (hR : RS l s0 kd sz ps P W h) (hW : W.length < 60) (x : Int32) : mR (d + 1) 30 [.ref 8, .int x] h (fun r h' => r = none ∧ RS l s0 kd sz ps P (x :: W) h') := by
  obtain ⟨R1, R2, e1, e2, rfl⟩ := hR
  have aP := ofN (n := W.length) (by omega)
  have c1 : (1 : Int32).toInt = 1 := by decide
  have c60 : (60 : Int32).toInt = 60 := by decide
  cases R2 with
  | nil => simp at e2; omega
  | cons r0 R2 =>
    refine mR_ix [(0, .ref 8), (1, .int x)] rfl rfl rfl ?_
    refine mE_aldn 1 rfl rfl rfl rfl ?_
    refine mE_gf 4 rfl rfl (rH5_8 hk) rfl rfl ?_
    refine mE_bip 6 60 rfl rfl rfl ?_
    refine mE_ic_ge_f 9 rfl (fun q => by have := Int32.le_iff_toInt_le.mp q; omega) rfl ?_
    refine mE_aldn 10 rfl rfl rfl rfl ?_
    refine mE_gf 13 rfl rfl (rH5_8 hk) rfl rfl ?_
    refine mE_aldn 14 rfl rfl rfl rfl ?_
    refine mE_gf 17 rfl rfl (rH5_8 hk) rfl rfl ?_
    refine mE_ildn 18 rfl rfl rfl rfl ?_
    refine mE_isa 19 W.length rfl (rH5_9 hk) (nc_of aP) (fun q => by
      rcases q with q | q
      · exact nn_of aP q
      · simp at q; omega) rfl ?_
    rw [rH5_9s hk, setm (by simp)]
    refine mE_aldn 20 rfl rfl rfl rfl ?_
    refine mE_dup 21 rfl rfl rfl ?_
    refine mE_gf 24 rfl rfl (rH5_8 hk) rfl rfl ?_
    refine mE_ico 25 1 rfl rfl rfl ?_
    refine mE_iadd 26 (Int32.ofNat (W.length + 1)) rfl (Int32.toInt_inj.mp (by rw [add_id (by omega) (by omega), aP, c1, ofN (by omega)]; rfl)) rfl ?_
    refine mE_pf 29 rfl (rH5_8 hk) rfl rfl ?_
    rw [rH5_8s hk]
    refine mE_vret rfl ⟨rfl, rfl, R1, R2, e1, by simp at e2 ⊢; omega, ?_⟩
    show rH5 _ _ _ (cRd ps (W.length + 1) kd) (cAr (W.reverse ++ x :: R2)) _ _ = _
    rw [List.reverse_cons, List.append_assoc]
    rfl
theorem strg_sg (b : Int32) : (strg b).toInt = sg b := by
  unfold strg sg
  split
  · rfl
  split
  · rfl
  split
  · rfl
  split
  · rfl
  split
  · rfl
  split <;> rfl
set_option maxRecDepth 10000 in
set_option maxHeartbeats 2000000 in
theorem s_writeWaiting (hk : kdOk l kd) {L : Int32} {Ln : Nat} (hL : L.toInt = Ln) (hL1 : 0 < Ln) : ∀ (W P : List Int32) (h : mS), RS l s0 kd sz ps P W h → P.length + W.length ≤ 60 → mR (d + 2) 31 [.ref 8, .int L] h (fun r h' => r = none ∧ RS l s0 kd sz ps (flsh Ln P W).1 (flsh Ln P W).2 h') := by
  have c1 : (1 : Int32).toInt = 1 := by decide
  have c0 : (0 : Int32).toInt = 0 := by decide
  have key : ∀ (W P : List Int32) (h : mS), RS l s0 kd sz ps P W h → P.length + W.length ≤ 60 → mE (mcall (d + 1)) none 2 (mgd 59 mtX5_writeWaiting) (40 * W.length + 40) (0, [(0, .ref 8), (1, .int L)], [], h) (fun r h' => mretok none r = true ∧ r = none ∧ RS l s0 kd sz ps (flsh Ln P W).1 (flsh Ln P W).2 h') := by
    intro W
    induction W with
    | nil =>
      intro P h hR hle
      obtain ⟨R1, R2, e1, e2, rfl⟩ := id hR
      refine mE_aldn 1 rfl rfl rfl rfl ?_
      refine mE_gf 4 rfl rfl (rH5_8 hk) rfl rfl ?_
      refine mE_if_le_t 58 rfl (by decide) rfl ?_
      exact mE_vret rfl ⟨rfl, rfl, hR⟩
    | cons o W ih =>
      intro P h hR hle
      simp only [List.length_cons] at hle
      obtain ⟨R1, R2, e1, e2, rfl⟩ := id hR
      simp only [List.length_cons] at e2
      have aW := ofN (n := (o :: W).length) (by simp only [List.length_cons]; omega)
      simp only [List.length_cons] at aW
      have hs : (Int32.ofNat (W.length + 1) - 1).toInt = W.length := by rw [sub_id (by omega) (by omega), aW, c1]; omega
      generalize hsg : Int32.ofNat (W.length + 1) - 1 = i at hs
      have hio : i = Int32.ofNat W.length := Int32.toInt_inj.mp (by rw [hs, ofN (by omega)])
      have hrev : (o :: W).reverse ++ R2 = W.reverse ++ o :: R2 := by simp
      rw [show 40 * (o :: W).length + 40 = (40 * W.length + 40) + 40 by simp only [List.length_cons]; omega]
      refine mE_aldn 1 rfl rfl rfl rfl ?_
      refine mE_gf 4 rfl rfl (rH5_8 hk) rfl rfl ?_
      refine mE_if_le_f 7 rfl (fun q => by have := Int32.le_iff_toInt_le.mp q; simp only [List.length_cons] at this; omega) rfl ?_
      refine mE_aldn 8 rfl rfl rfl rfl ?_
      refine mE_gf 11 rfl rfl (rH5_8 hk) rfl rfl ?_
      refine mE_aldn 12 rfl rfl rfl rfl ?_
      refine mE_gf 15 rfl rfl (rH5_8 hk) rfl rfl ?_
      refine mE_ico 16 1 rfl rfl rfl ?_
      refine mE_isub 17 i rfl hsg rfl ?_
      refine mE_ila 18 rfl (rH5_9 hk) (nn_of hs) (by rw [nc_of hs, hrev]; exact getm (by simp)) rfl ?_
      refine mE_cs [.int o] [] rfl rfl rfl rfl rfl ?_
      obtain ⟨r, hh, k1, rfl, e9⟩ := r_strength d o (rH5 l s0 kd (cRd ps (o :: W).length kd) (cAr ((o :: W).reverse ++ R2)) (cTx kd sz P.length) (cAr (P ++ R1)))
      subst e9
      refine ⟨_, _, k1, ?_⟩
      refine mE_ildn 22 rfl rfl rfl rfl ?_
      have hsg2 := strg_sg o
      have hfl : flsh Ln P (o :: W) = if Ln ≤ sg o then flsh Ln (P ++ [2000 + o]) W else (P, o :: W) := rfl
      by_cases hq : Ln ≤ sg o
      · rw [hfl, if_pos hq]
        refine mE_ic_lt_f 25 rfl (fun q => by have := Int32.lt_iff_toInt_lt.mp q; omega) rfl ?_
        refine mE_aldn 26 rfl rfl rfl rfl ?_
        refine mE_dup 27 rfl rfl rfl ?_
        refine mE_gf 30 rfl rfl (rH5_8 hk) rfl rfl ?_
        refine mE_ico 31 1 rfl rfl rfl ?_
        refine mE_isub 32 i rfl hsg rfl ?_
        refine mE_pf 35 rfl (rH5_8 hk) rfl rfl ?_
        rw [rH5_8s hk, hio, hrev]
        refine mE_aldn 36 rfl rfl rfl rfl ?_
        refine mE_gf 39 rfl rfl (rH5_8 hk) rfl rfl ?_
        refine mE_sip 42 2000 rfl rfl rfl ?_
        refine mE_aldn 43 rfl rfl rfl rfl ?_
        refine mE_gf 46 rfl rfl (rH5_8 hk) rfl rfl ?_
        refine mE_aldn 47 rfl rfl rfl rfl ?_
        refine mE_gf 50 rfl rfl (rH5_8 hk) rfl rfl ?_
        have aW2 := ofN (n := W.length) (by omega)
        refine mE_ila 51 rfl (rH5_9 hk) (nn_of aW2) (by rw [nc_of aW2]; exact getm (by simp)) rfl ?_
        refine mE_iadd 52 (2000 + o) rfl rfl rfl ?_
        refine mE_cv [.int (2000 + o)] [] rfl rfl rfl rfl (rH5_k hk) rfl ?_
        have hR' : RS l s0 kd sz ps P W (rH5 l s0 kd (cRd ps W.length kd) (cAr (W.reverse ++ o :: R2)) (cTx kd sz P.length) (cAr (P ++ R1))) := ⟨R1, o :: R2, e1, by simp only [List.length_cons]; omega, rfl⟩
        obtain ⟨r, hA, kA, rfl, hRA⟩ := s_addStep (d := d) hk hR' (by omega) (2000 + o)
        refine ⟨_, _, kA, ?_⟩
        refine mE_goto 0 rfl rfl ?_
        exact mE_le (ih (P ++ [2000 + o]) hA hRA (by simp only [List.length_append, List.length_singleton]; omega)) (by omega)
      · rw [hfl, if_neg hq]
        refine mE_ic_lt_t 58 rfl (Int32.lt_iff_toInt_lt.mpr (by omega)) rfl ?_
        exact mE_vret rfl ⟨rfl, rfl, hR⟩
  intro W P h hR hle
  refine mR_ix [(0, .ref 8), (1, .int L)] rfl rfl rfl ?_
  exact mE_le (key W P h hR hle) (Nat.le_trans (show 40 * W.length + 40 ≤ 2440 by omega) (Nat.le_of_ble_eq_true rfl))
end RSM
