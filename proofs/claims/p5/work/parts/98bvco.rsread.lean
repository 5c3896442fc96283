/-! the Reader reads a whole text -/
section RSR
variable {l : List mC} {s0 kd d : Nat} {sz : Int32} {P W : List Int32} {h : mS} {dp dg c wt mn : Int32}
set_option maxRecDepth 10000 in
set_option maxHeartbeats 2000000 in
theorem s_opnd (hk : kdOk l kd) (hR : RS l s0 kd sz (dp, dg, c, wt, mn) P W h) (hW : P.length + W.length < 60) {b : Int32} (b0 : 0 ≤ b.toInt) (b1 : b.toInt ≤ 255) {ps' : PS} (hp : psOp b dp dg c wt mn = some ps') : mR (d + 6) 24 [.ref 8, .int b] h (fun r h' => r = some (.int 1) ∧ RS l s0 kd sz ps' (if isDg b then (P ++ [b - 48], W) else if ¬ midx b < 0 then (P ++ [1000 + midx b], W) else (P, b :: W)).1 (if isDg b then (P ++ [b - 48], W) else if ¬ midx b < 0 then (P ++ [1000 + midx b], W) else (P, b :: W)).2 h') := by
  obtain ⟨R1, R2, e1, e2, rfl⟩ := id hR
  unfold psOp at hp
  refine mR_ix [(0, .ref 8), (1, .int b)] rfl rfl rfl ?_
  refine mE_ildn 1 rfl rfl rfl rfl ?_
  refine mE_cs [.int b] [] rfl rfl rfl rfl rfl ?_
  obtain ⟨r, hA, kA, rfl, eA⟩ := r_isDigit (d + 4) b (rH5 l s0 kd (cRd (dp, dg, c, wt, mn) W.length kd) (cAr (W.reverse ++ R2)) (cTx kd sz P.length) (cAr (P ++ R1)))
  subst eA
  refine ⟨_, _, kA, ?_⟩
  by_cases h4 : isDg b
  · rw [if_pos h4] at hp
    cases hp
    rw [if_pos h4, if_pos h4]
    refine mE_if_eq_f 7 rfl (by decide) rfl ?_
    refine mE_aldn 8 rfl rfl rfl rfl ?_
    refine mE_ico 9 1 rfl rfl rfl ?_
    refine mE_pf 12 rfl (rH5_8 hk) rfl rfl ?_
    rw [rH5_8s hk]
    refine mE_aldn 13 rfl rfl rfl rfl ?_
    refine mE_ico 14 0 rfl rfl rfl ?_
    refine mE_pf 17 rfl (rH5_8 hk) rfl rfl ?_
    rw [rH5_8s hk]
    refine mE_aldn 18 rfl rfl rfl rfl ?_
    refine mE_gf 21 rfl rfl (rH5_8 hk) rfl rfl ?_
    refine mE_ildn 22 rfl rfl rfl rfl ?_
    refine mE_bip 24 48 rfl rfl rfl ?_
    refine mE_isub 25 (b - 48) rfl rfl rfl ?_
    refine mE_cv [.int (b - 48)] [] rfl rfl rfl rfl (rH5_k hk) rfl ?_
    obtain ⟨r, hB, kB, rfl, hRB⟩ := s_addStep (d := d + 4) (sz := sz) (ps := (dp, 1, c, 0, mn)) (P := P) (W := W) hk ⟨R1, R2, e1, e2, rfl⟩ (by omega) (b - 48)
    refine ⟨_, _, kB, ?_⟩
    refine mE_ico 29 1 rfl rfl rfl ?_
    exact mE_iret rfl ⟨rfl, rfl, hRB⟩
  rw [if_neg h4] at hp
  rw [if_neg h4, if_neg h4]
  refine mE_if_eq_t 30 rfl rfl rfl ?_
  refine mE_ldcs 32 rfl rfl rfl ?_
  refine mE_ildn 33 rfl rfl rfl rfl ?_
  refine mE_i2c 34 b rfl (i2c_of b0 b1) rfl ?_
  refine p_cj [.int b] [] rfl rfl rfl rfl rfl rfl ?_
  obtain ⟨r, hC, kC, rfl, eC⟩ := r_indexOf (d + 1) b0 b1 (rH5 l s0 kd (cRd (dp, dg, c, wt, mn) W.length kd) (cAr (W.reverse ++ R2)) (cTx kd sz P.length) (cAr (P ++ R1)))
  subst eC
  refine ⟨_, _, kC, ?_⟩
  refine mE_istn 38 [(2, .int (midx b)), (0, .ref 8), (1, .int b)] rfl rfl rfl rfl ?_
  refine mE_ildn 39 rfl rfl rfl rfl ?_
  by_cases h39 : midx b < 0
  rotate_left
  · rw [if_pos h39] at hp
    cases hp
    rw [if_pos h39]
    refine mE_if_lt_f 42 rfl h39 rfl ?_
    refine mE_aldn 43 rfl rfl rfl rfl ?_
    refine mE_ico 44 0 rfl rfl rfl ?_
    refine mE_pf 47 rfl (rH5_8 hk) rfl rfl ?_
    rw [rH5_8s hk]
    refine mE_aldn 48 rfl rfl rfl rfl ?_
    refine mE_ico 49 0 rfl rfl rfl ?_
    refine mE_pf 52 rfl (rH5_8 hk) rfl rfl ?_
    rw [rH5_8s hk]
    refine mE_aldn 53 rfl rfl rfl rfl ?_
    refine mE_gf 56 rfl rfl (rH5_8 hk) rfl rfl ?_
    refine mE_sip 59 1000 rfl rfl rfl ?_
    refine mE_ildn 60 rfl rfl rfl rfl ?_
    refine mE_iadd 61 (1000 + midx b) rfl rfl rfl ?_
    refine mE_cv [.int (1000 + midx b)] [] rfl rfl rfl rfl (rH5_k hk) rfl ?_
    obtain ⟨r, hB, kB, rfl, hRB⟩ := s_addStep (d := d + 4) (sz := sz) (ps := (dp, 0, c, 0, mn)) (P := P) (W := W) hk ⟨R1, R2, e1, e2, rfl⟩ (by omega) (1000 + midx b)
    refine ⟨_, _, kB, ?_⟩
    refine mE_ico 65 1 rfl rfl rfl ?_
    exact mE_iret rfl ⟨rfl, rfl, hRB⟩
  rw [if_neg (fun q => q h39)] at hp
  rw [if_neg (fun q => q h39)]
  refine mE_if_lt_t 66 rfl h39 rfl ?_
  refine mE_ildn 67 rfl rfl rfl rfl ?_
  refine mE_bip 69 33 rfl rfl rfl ?_
  by_cases h33 : b = 33 ∧ ¬ mn = 0
  · rw [if_pos h33] at hp
    cases hp
    refine mE_ic_ne_f 72 rfl (fun q => q h33.1) rfl ?_
    refine mE_aldn 73 rfl rfl rfl rfl ?_
    refine mE_gf 76 rfl rfl (rH5_8 hk) rfl rfl ?_
    refine mE_if_eq_f 79 rfl h33.2 rfl ?_
    refine mE_aldn 80 rfl rfl rfl rfl ?_
    refine mE_ildn 81 rfl rfl rfl rfl ?_
    refine mE_cv [.int b] [] rfl rfl rfl rfl (rH5_8 hk) rfl ?_
    obtain ⟨r, hB, kB, rfl, hRB⟩ := s_letWait (d := d + 4) hk hR (by omega) b
    refine ⟨_, _, kB, ?_⟩
    refine mE_ico 85 1 rfl rfl rfl ?_
    exact mE_iret rfl ⟨rfl, rfl, hRB⟩
  rw [if_neg h33] at hp
  by_cases h40 : b = 40 ∧ ¬ dp = 12
  rotate_left
  · rw [if_neg h40] at hp
    cases hp
  rw [if_pos h40] at hp
  cases hp
  obtain ⟨q40, hdp⟩ := h40
  subst q40
  refine mE_ic_ne_t 86 rfl (by decide) rfl ?_
  refine mE_ildn 87 rfl rfl rfl rfl ?_
  refine mE_bip 89 40 rfl rfl rfl ?_
  refine mE_ic_ne_f 92 rfl (fun q => q rfl) rfl ?_
  refine mE_aldn 93 rfl rfl rfl rfl ?_
  refine mE_cv [] [] rfl rfl rfl rfl (rH5_8 hk) rfl ?_
  obtain ⟨r, hB, kB, rfl, hRB⟩ := s_open (d := d + 3) hk hR (by omega) hdp
  refine ⟨_, _, kB, ?_⟩
  refine mE_if_eq_f 99 rfl (by decide) rfl ?_
  refine mE_ico 100 1 rfl rfl rfl ?_
  refine mE_goto 104 rfl rfl ?_
  exact mE_iret rfl ⟨rfl, rfl, hRB⟩
theorem s_note (hk : kdOk l kd) (hR : RS l s0 kd sz (dp, dg, c, wt, mn) P W h) (b : Int32) : mR (d + 1) 27 [.ref 8, .int b] h (fun r h' => ∃ v c' : Int32, r = some (.int v) ∧ RS l s0 kd sz (dp, dg, c', wt, mn) P W h' ∧ nc b dp c v c') := by
  obtain ⟨R1, R2, e1, e2, rfl⟩ := id hR
  have hL : 8 < (rH5 l s0 kd (cRd (dp, dg, c, wt, mn) W.length kd) (cAr (W.reverse ++ R2)) (cTx kd sz P.length) (cAr (P ++ R1))).1.length := (List.getElem?_eq_some_iff.mp (rH5_8 (s0 := s0) hk)).1
  obtain ⟨r, hA, kA, v, c', rfl, rfl, hn⟩ := r_note (d := d) (s := s0) (w := Int32.ofNat W.length) (dp := dp) (dg := dg) (c := c) (wt := wt) (mn := mn) (b := b) (kd := kd) hL
  have e9 := rH5_8s (s0 := s0) (c8 := cRd (dp, dg, c, wt, mn) W.length kd) (c9 := cAr (W.reverse ++ R2)) (ck := cTx kd sz P.length) (cs := cAr (P ++ R1)) (c := cRd (dp, dg, c, wt, mn) W.length kd) hk
  rw [show ((rH5 l s0 kd (cRd (dp, dg, c, wt, mn) W.length kd) (cAr (W.reverse ++ R2)) (cTx kd sz P.length) (cAr (P ++ R1))).1.set 8 (cRd (dp, dg, c, wt, mn) W.length kd), s0) = rH5 l s0 kd (cRd (dp, dg, c, wt, mn) W.length kd) (cAr (W.reverse ++ R2)) (cTx kd sz P.length) (cAr (P ++ R1)) from e9] at kA
  refine ⟨_, _, kA, v, c', rfl, ⟨R1, R2, e1, e2, ?_⟩, hn⟩
  exact rH5_8s hk
set_option maxRecDepth 10000 in
set_option maxHeartbeats 2000000 in
theorem s_behd (hk : kdOk l kd) (hR : RS l s0 kd sz (dp, dg, c, wt, mn) P W h) (hW : P.length + W.length < 60) {b : Int32} {ps' : PS} (hp : psBe b dp dg c wt mn = some ps') : mR (d + 6) 25 [.ref 8, .int b] h (fun r h' => r = some (.int 1) ∧ RS l s0 kd sz ps' (if isDg b then (setLast P (fun x => 10 * x + (b - 48)), W) else if b = 41 then ((flsh 1 P W).1, (flsh 1 P W).2.tail) else ((flsh (sg b) P W).1, b :: (flsh (sg b) P W).2)).1 (if isDg b then (setLast P (fun x => 10 * x + (b - 48)), W) else if b = 41 then ((flsh 1 P W).1, (flsh 1 P W).2.tail) else ((flsh (sg b) P W).1, b :: (flsh (sg b) P W).2)).2 h') := by
  obtain ⟨R1, R2, e1, e2, rfl⟩ := id hR
  unfold psBe at hp
  refine mR_ix [(0, .ref 8), (1, .int b)] rfl rfl rfl ?_
  refine mE_ildn 1 rfl rfl rfl rfl ?_
  refine mE_cs [.int b] [] rfl rfl rfl rfl rfl ?_
  obtain ⟨r, hA, kA, rfl, eA⟩ := r_isDigit (d + 4) b (rH5 l s0 kd (cRd (dp, dg, c, wt, mn) W.length kd) (cAr (W.reverse ++ R2)) (cTx kd sz P.length) (cAr (P ++ R1)))
  subst eA
  refine ⟨_, _, kA, ?_⟩
  by_cases h4 : isDg b
  · rw [if_pos h4] at hp
    by_cases hd : dg = 0 ∨ dg = 3
    · rw [if_pos hd] at hp
      cases hp
    rw [if_neg hd] at hp
    cases hp
    rw [if_pos h4, if_pos h4]
    refine mE_if_eq_f 7 rfl (by decide) rfl ?_
    refine mE_aldn 8 rfl rfl rfl rfl ?_
    refine mE_gf 11 rfl rfl (rH5_8 hk) rfl rfl ?_
    refine mE_if_eq_f 14 rfl (fun q => hd (Or.inl q)) rfl ?_
    refine mE_aldn 15 rfl rfl rfl rfl ?_
    refine mE_gf 18 rfl rfl (rH5_8 hk) rfl rfl ?_
    refine mE_ico 19 3 rfl rfl rfl ?_
    refine mE_ic_ne_t 24 rfl (fun q => hd (Or.inr q)) rfl ?_
    refine mE_aldn 25 rfl rfl rfl rfl ?_
    refine mE_dup 26 rfl rfl rfl ?_
    refine mE_gf 29 rfl rfl (rH5_8 hk) rfl rfl ?_
    refine mE_ico 30 1 rfl rfl rfl ?_
    refine mE_iadd 31 (dg + 1) rfl rfl rfl ?_
    refine mE_pf 34 rfl (rH5_8 hk) rfl rfl ?_
    rw [rH5_8s hk]
    refine mE_aldn 35 rfl rfl rfl rfl ?_
    refine mE_gf 38 rfl rfl (rH5_8 hk) rfl rfl ?_
    refine mE_ildn 39 rfl rfl rfl rfl ?_
    refine mE_bip 41 48 rfl rfl rfl ?_
    refine mE_isub 42 (b - 48) rfl rfl rfl ?_
    refine mE_cv [.int (b - 48)] [] rfl rfl rfl rfl (rH5_k hk) rfl ?_
    obtain ⟨r, hB, kB, rfl, hRB⟩ := s_addDigitS (d := d + 4) (sz := sz) (ps := (dp, dg + 1, c, wt, mn)) (P := P) (W := W) hk ⟨R1, R2, e1, e2, rfl⟩ (b - 48)
    refine ⟨_, _, kB, ?_⟩
    refine mE_ico 46 1 rfl rfl rfl ?_
    exact mE_iret rfl ⟨rfl, rfl, hRB⟩
  rw [if_neg h4] at hp
  rw [if_neg h4, if_neg h4]
  refine mE_if_eq_t 47 rfl rfl rfl ?_
  refine mE_ildn 48 rfl rfl rfl rfl ?_
  refine mE_bip 50 41 rfl rfl rfl ?_
  by_cases h41 : b = 41
  · rw [if_pos h41] at hp
    by_cases hd : dp = 0
    · rw [if_pos hd] at hp
      cases hp
    rw [if_neg hd] at hp
    cases hp
    rw [if_pos h41]
    refine mE_ic_ne_f 53 rfl (fun q => q h41) rfl ?_
    refine mE_aldn 54 rfl rfl rfl rfl ?_
    refine mE_cv [] [] rfl rfl rfl rfl (rH5_8 hk) rfl ?_
    obtain ⟨r, hB, kB, rfl, hRB⟩ := s_close (d := d + 2) hk hR (by omega) hd
    refine ⟨_, _, kB, ?_⟩
    exact mE_iret rfl ⟨rfl, rfl, hRB⟩
  rw [if_neg h41] at hp
  rw [if_neg h41]
  refine mE_ic_ne_t 58 rfl h41 rfl ?_
  refine mE_ildn 59 rfl rfl rfl rfl ?_
  refine mE_cs [.int b] [] rfl rfl rfl rfl rfl ?_
  obtain ⟨r, hh, k1, rfl, e9⟩ := r_strength (d + 4) b (rH5 l s0 kd (cRd (dp, dg, c, wt, mn) W.length kd) (cAr (W.reverse ++ R2)) (cTx kd sz P.length) (cAr (P ++ R1)))
  subst e9
  refine ⟨_, _, k1, ?_⟩
  refine mE_istn 63 [(2, .int (strg b)), (0, .ref 8), (1, .int b)] rfl rfl rfl rfl ?_
  refine mE_ildn 64 rfl rfl rfl rfl ?_
  have hops : (isBo b ∨ isRl b ∨ (b = 43 ∨ b = 45 ∨ b = 42)) := by
    by_cases q1 : isBo b
    · exact Or.inl q1
    rw [if_neg q1] at hp
    by_cases q2 : isRl b
    · exact Or.inr (Or.inl q2)
    rw [if_neg q2] at hp
    by_cases q3 : b = 43 ∨ b = 45 ∨ b = 42
    · exact Or.inr (Or.inr q3)
    rw [if_neg q3] at hp
    cases hp
  have hsg : 0 < sg b ∧ ¬ strg b = 0 ∧ ¬ b = 33 := by
    rcases hops with (rfl | rfl) | (rfl | rfl | rfl) | (rfl | rfl | rfl) <;> decide
  refine mE_if_eq_f 67 rfl hsg.2.1 rfl ?_
  refine mE_ildn 68 rfl rfl rfl rfl ?_
  refine mE_bip 70 33 rfl rfl rfl ?_
  refine mE_ic_ne_t 75 rfl hsg.2.2 rfl ?_
  refine mE_aldn 76 rfl rfl rfl rfl ?_
  refine mE_ildn 77 rfl rfl rfl rfl ?_
  refine mE_cv [.int b] [] rfl rfl rfl rfl (rH5_8 hk) rfl ?_
  obtain ⟨r, hB, kB, v, c', rfl, hRB, hn⟩ := s_note (d := d + 4) hk hR b
  refine ⟨_, _, kB, ?_⟩
  have hps : v = 1 ∧ ps' = (dp, dg, c', 1, if isBo b then 1 else 0) := by
    rcases hn with ⟨n1, n2, n3⟩ | ⟨n1, n2, n3, n4⟩ | ⟨n1, n2, n3, n4⟩ | ⟨⟨n1, n1'⟩, n2, n3⟩
    · rw [if_pos n1] at hp
      cases hp
      exact ⟨n2, by rw [n3, if_pos n1]⟩
    · have nb : ¬ isBo b := by rcases n1 with rfl | rfl | rfl <;> decide
      rw [if_neg nb, if_pos n1, if_pos n2] at hp
      cases hp
      exact ⟨n3, by rw [n4, if_neg nb]⟩
    · have nb : ¬ isBo b := by rcases n1 with rfl | rfl | rfl <;> decide
      rw [if_neg nb, if_pos n1, if_neg n2] at hp
      cases hp
    · rcases hops with q | q | q
      · exact absurd q n1
      · exact absurd q n1'
      · rw [if_neg n1, if_neg n1', if_pos q] at hp
        cases hp
        exact ⟨n2, by rw [n3, if_neg n1]⟩
  obtain ⟨rfl, rfl⟩ := hps
  obtain ⟨R3, R4, e3, e4, rfl⟩ := id hRB
  refine mE_if_eq_f 83 rfl (by decide) rfl ?_
  refine mE_aldn 84 rfl rfl rfl rfl ?_
  refine mE_ildn 85 rfl rfl rfl rfl ?_
  refine mE_ildn 86 rfl rfl rfl rfl ?_
  refine mE_cv [.int b, .int (strg b)] [] rfl rfl rfl rfl (rH5_8 hk) rfl ?_
  obtain ⟨r, hC, kC, rfl, hRC⟩ := s_oper (d := d + 2) hk hRB hW hsg.1
  refine ⟨_, _, kC, ?_⟩
  refine mE_if_eq_f 92 rfl (by decide) rfl ?_
  refine mE_ico 93 1 rfl rfl rfl ?_
  refine mE_goto 97 rfl rfl ?_
  exact mE_iret rfl ⟨rfl, rfl, hRC⟩
end RSR
