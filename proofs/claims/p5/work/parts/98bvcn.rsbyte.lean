/-! the Reader takes a byte: stack and steps as rdPW says -/
section RSB
variable {l : List mC} {s0 kd d : Nat} {sz : Int32} {P W : List Int32} {h : mS} {dp dg c wt mn : Int32}
set_option maxRecDepth 10000 in
set_option maxHeartbeats 1000000 in
theorem s_addDigit0 (hk : kdOk l kd) {ps : PS} (hR : RS l s0 kd sz ps [] W h) (x : Int32) : mR (d + 1) 54 [.ref kd, .int x] h (fun r h' => r = none ∧ RS l s0 kd sz ps [] W h') := by
  obtain ⟨R1, R2, e1, e2, rfl⟩ := id hR
  refine mR_ix [(0, .ref kd), (1, .int x)] rfl rfl rfl ?_
  refine mE_aldn 1 rfl rfl rfl rfl ?_
  refine mE_gf 4 rfl rfl (rH5_k hk) rfl rfl ?_
  refine mE_if_le_t 34 rfl (by decide) rfl ?_
  exact mE_vret rfl ⟨rfl, rfl, hR⟩
theorem s_addDigitS (hk : kdOk l kd) {ps : PS} (hR : RS l s0 kd sz ps P W h) (x : Int32) : mR (d + 1) 54 [.ref kd, .int x] h (fun r h' => r = none ∧ RS l s0 kd sz ps (setLast P (fun z => 10 * z + x)) W h') := by
  rcases List.eq_nil_or_concat P with rfl | ⟨P', p, rfl⟩
  · exact s_addDigit0 hk hR x
  · have e : setLast (P' ++ [p]) (fun z => 10 * z + x) = P' ++ [10 * p + x] := by
      unfold setLast
      rw [List.getLast?_concat, List.dropLast_concat]
    rw [List.concat_eq_append] at hR ⊢
    rw [e]
    exact s_addDigit hk hR x
set_option maxRecDepth 10000 in
set_option maxHeartbeats 1000000 in
theorem s_open (hk : kdOk l kd) (hR : RS l s0 kd sz (dp, dg, c, wt, mn) P W h) (hW : W.length < 60) (hd : ¬ dp = 12) : mR (d + 2) 28 [.ref 8] h (fun r h' => r = some (.int 1) ∧ RS l s0 kd sz (dp + 1, dg, c &&& (((1 : Int32) <<< ((dp + 1) &&& 31)) ^^^ (-1)), wt, 1) P (40 :: W) h') := by
  obtain ⟨R1, R2, e1, e2, rfl⟩ := hR
  refine mR_ix [(0, .ref 8)] rfl rfl rfl ?_
  refine mE_aldn 1 rfl rfl rfl rfl ?_
  refine mE_gf 4 rfl rfl (rH5_8 hk) rfl rfl ?_
  refine mE_bip 6 12 rfl rfl rfl ?_
  refine mE_ic_ne_t 11 rfl hd rfl ?_
  refine mE_aldn 12 rfl rfl rfl rfl ?_
  refine mE_dup 13 rfl rfl rfl ?_
  refine mE_gf 16 rfl rfl (rH5_8 hk) rfl rfl ?_
  refine mE_ico 17 1 rfl rfl rfl ?_
  refine mE_iadd 18 (dp + 1) rfl rfl rfl ?_
  refine mE_pf 21 rfl (rH5_8 hk) rfl rfl ?_
  rw [rH5_8s hk]
  refine mE_aldn 22 rfl rfl rfl rfl ?_
  refine mE_dup 23 rfl rfl rfl ?_
  refine mE_gf 26 rfl rfl (rH5_8 hk) rfl rfl ?_
  refine mE_ico 27 1 rfl rfl rfl ?_
  refine mE_aldn 28 rfl rfl rfl rfl ?_
  refine mE_gf 31 rfl rfl (rH5_8 hk) rfl rfl ?_
  refine mE_ishl 32 ((1 : Int32) <<< ((dp + 1) &&& 31)) rfl rfl rfl ?_
  refine mE_ico 33 (-1) rfl rfl rfl ?_
  refine mE_ixor 34 (((1 : Int32) <<< ((dp + 1) &&& 31)) ^^^ (-1)) rfl rfl rfl ?_
  refine mE_iand 35 (c &&& (((1 : Int32) <<< ((dp + 1) &&& 31)) ^^^ (-1))) rfl rfl rfl ?_
  refine mE_pf 38 rfl (rH5_8 hk) rfl rfl ?_
  rw [rH5_8s hk]
  refine mE_aldn 39 rfl rfl rfl rfl ?_
  refine mE_ico 40 1 rfl rfl rfl ?_
  refine mE_pf 43 rfl (rH5_8 hk) rfl rfl ?_
  rw [rH5_8s hk]
  refine mE_aldn 44 rfl rfl rfl rfl ?_
  refine mE_bip 46 40 rfl rfl rfl ?_
  refine mE_cv [.int 40] [] rfl rfl rfl rfl (rH5_8 hk) rfl ?_
  obtain ⟨r, hA, kA, rfl, hRA⟩ := s_letWait (d := d) (sz := sz) (ps := (dp + 1, dg, c &&& (((1 : Int32) <<< ((dp + 1) &&& 31)) ^^^ (-1)), wt, 1)) (P := P) (W := W) hk ⟨R1, R2, e1, e2, rfl⟩ hW 40
  refine ⟨_, _, kA, ?_⟩
  refine mE_ico 50 1 rfl rfl rfl ?_
  exact mE_iret rfl ⟨rfl, rfl, hRA⟩
set_option maxRecDepth 10000 in
set_option maxHeartbeats 1000000 in
theorem s_close (hk : kdOk l kd) (hR : RS l s0 kd sz (dp, dg, c, wt, mn) P W h) (hW : P.length + W.length ≤ 60) (hd : ¬ dp = 0) : mR (d + 3) 29 [.ref 8] h (fun r h' => r = some (.int 1) ∧ RS l s0 kd sz (dp - 1, 0, c, wt, mn) (flsh 1 P W).1 (flsh 1 P W).2.tail h') := by
  obtain ⟨R1, R2, e1, e2, rfl⟩ := id hR
  refine mR_ix [(0, .ref 8)] rfl rfl rfl ?_
  refine mE_aldn 1 rfl rfl rfl rfl ?_
  refine mE_gf 4 rfl rfl (rH5_8 hk) rfl rfl ?_
  refine mE_if_ne_t 9 rfl hd rfl ?_
  refine mE_aldn 10 rfl rfl rfl rfl ?_
  refine mE_ico 11 1 rfl rfl rfl ?_
  refine mE_cv [.int 1] [] rfl rfl rfl rfl (rH5_8 hk) rfl ?_
  obtain ⟨r, hA, kA, rfl, hRA⟩ := s_writeWaiting (d := d) hk (L := 1) (Ln := 1) (by decide) (by decide) W P _ hR hW
  refine ⟨_, _, kA, ?_⟩
  revert hRA
  generalize (flsh 1 P W).1 = P'
  generalize (flsh 1 P W).2 = W'
  intro hRA
  obtain ⟨R3, R4, e3, e4, rfl⟩ := hRA
  have fin : ∀ (n : Int32) (W2 R5 : List Int32), W2 = W'.tail → n = Int32.ofNat W2.length → W2.length + R5.length = 60 → W'.reverse ++ R4 = W2.reverse ++ R5 → mE (mcall (d + 2)) none 1 (mgd 45 mtX5_closeParenthesis) 30 (25, [(0, .ref 8)], [.int n, .ref 8], rH5 l s0 kd (cRd (dp, dg, c, wt, mn) W'.length kd) (cAr (W'.reverse ++ R4)) (cTx kd sz P'.length) (cAr (P' ++ R3))) (fun r h' => mretok (some .boolean) r = true ∧ r = some (.int 1) ∧ RS l s0 kd sz (dp - 1, 0, c, wt, mn) P' W'.tail h') := by
    intro n W2 R5 hW2 hn hl hr
    rw [← hW2]
    refine mE_pf 28 rfl (rH5_8 hk) rfl rfl ?_
    rw [rH5_8s hk]
    refine mE_aldn 29 rfl rfl rfl rfl ?_
    refine mE_dup 30 rfl rfl rfl ?_
    refine mE_gf 33 rfl rfl (rH5_8 hk) rfl rfl ?_
    refine mE_ico 34 1 rfl rfl rfl ?_
    refine mE_isub 35 (dp - 1) rfl rfl rfl ?_
    refine mE_pf 38 rfl (rH5_8 hk) rfl rfl ?_
    rw [rH5_8s hk]
    refine mE_aldn 39 rfl rfl rfl rfl ?_
    refine mE_ico 40 0 rfl rfl rfl ?_
    refine mE_pf 43 rfl (rH5_8 hk) rfl rfl ?_
    rw [rH5_8s hk]
    refine mE_ico 44 1 rfl rfl rfl ?_
    refine mE_iret rfl ⟨rfl, rfl, R3, R5, e3, hl, ?_⟩
    rw [hr, hn]
    rfl
  refine mE_aldn 15 rfl rfl rfl rfl ?_
  refine mE_ico 16 0 rfl rfl rfl ?_
  refine mE_aldn 17 rfl rfl rfl rfl ?_
  refine mE_gf 20 rfl rfl (rH5_8 hk) rfl rfl ?_
  refine mE_ico 21 1 rfl rfl rfl ?_
  cases W' with
  | nil =>
    refine mE_isub 22 (-1) rfl (by decide) rfl ?_
    refine mE_max 25 0 rfl rfl rfl (by decide) rfl ?_
    exact mE_le (fin 0 [] R4 rfl rfl e4 rfl) (Nat.le_of_ble_eq_true rfl)
  | cons o W' =>
    simp only [List.length_cons] at e4
    have aW := ofN (n := W'.length + 1) (by omega)
    have aW2 := ofN (n := W'.length) (by omega)
    have c1 : (1 : Int32).toInt = 1 := by decide
    have c0 : (0 : Int32).toInt = 0 := by decide
    refine mE_isub 22 (Int32.ofNat W'.length) rfl (Int32.toInt_inj.mp (by show (Int32.ofNat (W'.length + 1) - 1).toInt = _; rw [sub_id (by omega) (by omega), aW, c1, aW2]; omega)) rfl ?_
    refine mE_max 25 (Int32.ofNat W'.length) rfl rfl rfl (by
      by_cases q : (0 : Int32) < Int32.ofNat W'.length
      · rw [if_pos q]
      · rw [if_neg q]
        have := Int32.le_iff_toInt_le.mp (Int32.not_lt.mp q)
        exact Int32.toInt_inj.mp (by omega)) rfl ?_
    exact mE_le (fin (Int32.ofNat W'.length) W' (o :: R4) rfl rfl (by simp only [List.length_cons]; omega) (by simp)) (Nat.le_of_ble_eq_true rfl)
set_option maxRecDepth 10000 in
set_option maxHeartbeats 1000000 in
theorem s_oper (hk : kdOk l kd) (hR : RS l s0 kd sz (dp, dg, c, wt, mn) P W h) (hW : P.length + W.length < 60) {b : Int32} (hs : 0 < sg b) : mR (d + 3) 26 [.ref 8, .int b, .int (strg b)] h (fun r h' => r = some (.int 1) ∧ RS l s0 kd sz (dp, dg, c, 1, if isBo b then 1 else 0) (flsh (sg b) P W).1 (b :: (flsh (sg b) P W).2) h') := by
  have hlen : (flsh (sg b) P W).1.length + (flsh (sg b) P W).2.length = P.length + W.length := by
    clear hR hW
    generalize sg b = L
    induction W generalizing P with
    | nil => rfl
    | cons o W ih =>
      show (if L ≤ sg o then flsh L (P ++ [2000 + o]) W else (P, o :: W)).1.length + _ = _
      by_cases q : L ≤ sg o
      · have e : flsh L P (o :: W) = flsh L (P ++ [2000 + o]) W := by show (if L ≤ sg o then _ else _) = _; rw [if_pos q]
        rw [if_pos q, e, ih]
        simp only [List.length_append, List.length_cons, List.length_nil]
        omega
      · have e : flsh L P (o :: W) = (P, o :: W) := by show (if L ≤ sg o then _ else _) = _; rw [if_neg q]
        rw [if_neg q, e]
  obtain ⟨R1, R2, e1, e2, rfl⟩ := id hR
  refine mR_ix [(0, .ref 8), (1, .int b), (2, .int (strg b))] rfl rfl rfl ?_
  refine mE_aldn 1 rfl rfl rfl rfl ?_
  refine mE_ildn 2 rfl rfl rfl rfl ?_
  refine mE_cv [.int (strg b)] [] rfl rfl rfl rfl (rH5_8 hk) rfl ?_
  obtain ⟨r, hA, kA, rfl, hRA⟩ := s_writeWaiting (d := d) hk (L := strg b) (Ln := sg b) (strg_sg b) hs W P _ hR (by omega)
  refine ⟨_, _, kA, ?_⟩
  obtain ⟨R3, R4, e3, e4, rfl⟩ := id hRA
  refine mE_aldn 6 rfl rfl rfl rfl ?_
  refine mE_ildn 7 rfl rfl rfl rfl ?_
  refine mE_cv [.int b] [] rfl rfl rfl rfl (rH5_8 hk) rfl ?_
  obtain ⟨r, hB, kB, rfl, hRB⟩ := s_letWait (d := d + 1) hk hRA (by omega) b
  refine ⟨_, _, kB, ?_⟩
  obtain ⟨R5, R6, e5, e6, rfl⟩ := id hRB
  refine mE_aldn 11 rfl rfl rfl rfl ?_
  refine mE_ico 12 1 rfl rfl rfl ?_
  refine mE_pf 15 rfl (rH5_8 hk) rfl rfl ?_
  rw [rH5_8s hk]
  refine mE_aldn 16 rfl rfl rfl rfl ?_
  refine mE_ildn 17 rfl rfl rfl rfl ?_
  refine mE_bip 19 38 rfl rfl rfl ?_
  have fin : ∀ v : Int32, v = (if isBo b then 1 else 0) → mE (mcall (d + 2)) none 3 (mgd 38 mtX5_readOperator) 10 (33, [(0, .ref 8), (1, .int b), (2, .int (strg b))], [.int v, .ref 8], rH5 l s0 kd (cRd (dp, dg, c, 1, mn) (b :: (flsh (sg b) P W).2).length kd) (cAr ((b :: (flsh (sg b) P W).2).reverse ++ R6)) (cTx kd sz (flsh (sg b) P W).1.length) (cAr ((flsh (sg b) P W).1 ++ R5))) (fun r h' => mretok (some .boolean) r = true ∧ r = some (.int 1) ∧ RS l s0 kd sz (dp, dg, c, 1, if isBo b then 1 else 0) (flsh (sg b) P W).1 (b :: (flsh (sg b) P W).2) h') := by
    intro v hv
    rw [← hv]
    have hf : mfit (mtyOf 5 6) (.int v) = true := by
      by_cases q : isBo b
      · rw [if_pos q] at hv; subst hv; rfl
      · rw [if_neg q] at hv; subst hv; rfl
    refine mE_pf 36 rfl (rH5_8 hk) (by rw [hf]; rfl) rfl ?_
    rw [rH5_8s hk]
    refine mE_ico 37 1 rfl rfl rfl ?_
    exact mE_iret rfl ⟨rfl, rfl, R5, R6, e5, e6, rfl⟩
  by_cases q1 : b = 38
  · refine mE_ic_eq_t 28 rfl q1 rfl ?_
    refine mE_ico 29 1 rfl rfl rfl ?_
    refine mE_goto 33 rfl rfl ?_
    exact mE_le (fin 1 (by rw [if_pos (Or.inl q1)])) (Nat.le_of_ble_eq_true rfl)
  · refine mE_ic_eq_f 22 rfl q1 rfl ?_
    refine mE_ildn 23 rfl rfl rfl rfl ?_
    refine mE_bip 25 124 rfl rfl rfl ?_
    by_cases q2 : b = 124
    · refine mE_ic_ne_f 28 rfl (fun q => q q2) rfl ?_
      refine mE_ico 29 1 rfl rfl rfl ?_
      refine mE_goto 33 rfl rfl ?_
      exact mE_le (fin 1 (by rw [if_pos (Or.inr q2)])) (Nat.le_of_ble_eq_true rfl)
    · refine mE_ic_ne_t 32 rfl q2 rfl ?_
      refine mE_ico 33 0 rfl rfl rfl ?_
      exact mE_le (fin 0 (by rw [if_neg (by rintro (q | q) <;> contradiction)])) (Nat.le_of_ble_eq_true rfl)
end RSB
