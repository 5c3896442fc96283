/-! a byte that the Reader does not take: nothing changes -/
section RSF
variable {l : List mC} {s0 kd d : Nat} {sz : Int32} {P W : List Int32} {h : mS} {dp dg c wt mn : Int32}
set_option maxRecDepth 10000 in
set_option maxHeartbeats 2000000 in
theorem s_opnd0 (hk : kdOk l kd) (hR : RS l s0 kd sz (dp, dg, c, wt, mn) P W h) {b : Int32} (b0 : 0 ≤ b.toInt) (b1 : b.toInt ≤ 255) (hp : psOp b dp dg c wt mn = none) : mR (d + 6) 24 [.ref 8, .int b] h (fun r h' => r = some (.int 0) ∧ h' = h) := by
  obtain ⟨R1, R2, e1, e2, eh⟩ := id hR
  have g8 : h.1[8]? = some (cRd (dp, dg, c, wt, mn) W.length kd) := by rw [eh]; exact rH5_8 hk
  unfold psOp at hp
  refine mR_ix [(0, .ref 8), (1, .int b)] rfl rfl rfl ?_
  refine mE_ildn 1 rfl rfl rfl rfl ?_
  refine mE_cs [.int b] [] rfl rfl rfl rfl rfl ?_
  obtain ⟨r, hA, kA, rfl, eA⟩ := r_isDigit (d + 4) b h
  have eA := eA.symm
  subst eA
  refine ⟨_, _, kA, ?_⟩
  by_cases h4 : isDg b
  · rw [if_pos h4] at hp
    cases hp
  rw [if_neg h4] at hp
  rw [if_neg h4]
  refine mE_if_eq_t 30 rfl rfl rfl ?_
  refine mE_ldcs 32 rfl rfl rfl ?_
  refine mE_ildn 33 rfl rfl rfl rfl ?_
  refine mE_i2c 34 b rfl (i2c_of b0 b1) rfl ?_
  refine p_cj [.int b] [] rfl rfl rfl rfl rfl rfl ?_
  obtain ⟨r, hC, kC, rfl, eC⟩ := r_indexOf (d + 1) b0 b1 h
  have eC := eC.symm
  subst eC
  refine ⟨_, _, kC, ?_⟩
  refine mE_istn 38 [(2, .int (midx b)), (0, .ref 8), (1, .int b)] rfl rfl rfl rfl ?_
  refine mE_ildn 39 rfl rfl rfl rfl ?_
  by_cases h39 : midx b < 0
  rotate_left
  · rw [if_pos h39] at hp
    cases hp
  rw [if_neg (fun q => q h39)] at hp
  refine mE_if_lt_t 66 rfl h39 rfl ?_
  refine mE_ildn 67 rfl rfl rfl rfl ?_
  refine mE_bip 69 33 rfl rfl rfl ?_
  by_cases h33 : b = 33 ∧ ¬ mn = 0
  · rw [if_pos h33] at hp
    cases hp
  rw [if_neg h33] at hp
  have hno : ¬ (b = 40 ∧ ¬ dp = 12) := fun q => by rw [if_pos q] at hp; cases hp
  have last : mE (mcall (d + 5)) none 3 (mgd 105 mtX5_readOperand) 30 (86, [(2, .int (midx b)), (0, .ref 8), (1, .int b)], [], h) (fun r h' => mretok (some .boolean) r = true ∧ r = some (.int 0) ∧ h' = h) := by
    refine mE_ildn 87 rfl rfl rfl rfl ?_
    refine mE_bip 89 40 rfl rfl rfl ?_
    by_cases h40 : b = 40
    · have hdp : dp = 12 := Classical.not_not.mp (fun q => hno ⟨h40, q⟩)
      refine mE_ic_ne_f 92 rfl (fun q => q h40) rfl ?_
      refine mE_aldn 93 rfl rfl rfl rfl ?_
      refine mE_cv [] [] rfl rfl rfl rfl g8 rfl ?_
      have : mR (d + 5) 28 [.ref 8] h (fun r h' => r = some (.int 0) ∧ h' = h) := by
        refine mR_ix [(0, .ref 8)] rfl rfl rfl ?_
        refine mE_aldn 1 rfl rfl rfl rfl ?_
        refine mE_gf 4 rfl rfl g8 rfl rfl ?_
        refine mE_bip 6 12 rfl rfl rfl ?_
        refine mE_ic_ne_f 9 rfl (fun q => q hdp) rfl ?_
        refine mE_ico 10 0 rfl rfl rfl ?_
        exact mE_iret rfl ⟨rfl, rfl, rfl⟩
      obtain ⟨r, hB, kB, rfl, eB⟩ := this
      have eB := eB.symm
      subst eB
      refine ⟨_, _, kB, ?_⟩
      refine mE_if_eq_t 103 rfl rfl rfl ?_
      refine mE_ico 104 0 rfl rfl rfl ?_
      exact mE_iret rfl ⟨rfl, rfl, rfl⟩
    · refine mE_ic_ne_t 103 rfl h40 rfl ?_
      refine mE_ico 104 0 rfl rfl rfl ?_
      exact mE_iret rfl ⟨rfl, rfl, rfl⟩
  by_cases q33 : b = 33
  · refine mE_ic_ne_f 72 rfl (fun q => q q33) rfl ?_
    refine mE_aldn 73 rfl rfl rfl rfl ?_
    refine mE_gf 76 rfl rfl g8 rfl rfl ?_
    refine mE_if_eq_t 86 rfl (Classical.not_not.mp (fun q => h33 ⟨q33, q⟩)) rfl ?_
    exact mE_le last (Nat.le_of_ble_eq_true rfl)
  · refine mE_ic_ne_t 86 rfl q33 rfl ?_
    exact mE_le last (Nat.le_of_ble_eq_true rfl)
set_option maxRecDepth 10000 in
set_option maxHeartbeats 2000000 in
theorem s_behd0 (hk : kdOk l kd) (hR : RS l s0 kd sz (dp, dg, c, wt, mn) P W h) {b : Int32} (hp : psBe b dp dg c wt mn = none) : mR (d + 6) 25 [.ref 8, .int b] h (fun r h' => r = some (.int 0) ∧ RS l s0 kd sz (dp, dg, c, wt, mn) P W h') := by
  obtain ⟨R1, R2, e1, e2, eh⟩ := id hR
  have g8 : h.1[8]? = some (cRd (dp, dg, c, wt, mn) W.length kd) := by rw [eh]; exact rH5_8 hk
  unfold psBe at hp
  refine mR_ix [(0, .ref 8), (1, .int b)] rfl rfl rfl ?_
  refine mE_ildn 1 rfl rfl rfl rfl ?_
  refine mE_cs [.int b] [] rfl rfl rfl rfl rfl ?_
  obtain ⟨r, hA, kA, rfl, eA⟩ := r_isDigit (d + 4) b h
  have eA := eA.symm
  subst eA
  refine ⟨_, _, kA, ?_⟩
  by_cases h4 : isDg b
  · rw [if_pos h4] at hp ⊢
    refine mE_if_eq_f 7 rfl (by decide) rfl ?_
    refine mE_aldn 8 rfl rfl rfl rfl ?_
    refine mE_gf 11 rfl rfl g8 rfl rfl ?_
    by_cases q0 : dg = 0
    · refine mE_if_eq_t 22 rfl q0 rfl ?_
      refine mE_ico 23 0 rfl rfl rfl ?_
      exact mE_iret rfl ⟨rfl, rfl, hR⟩
    · refine mE_if_eq_f 14 rfl q0 rfl ?_
      refine mE_aldn 15 rfl rfl rfl rfl ?_
      refine mE_gf 18 rfl rfl g8 rfl rfl ?_
      refine mE_ico 19 3 rfl rfl rfl ?_
      by_cases q3 : dg = 3
      · refine mE_ic_ne_f 22 rfl (fun q => q q3) rfl ?_
        refine mE_ico 23 0 rfl rfl rfl ?_
        exact mE_iret rfl ⟨rfl, rfl, hR⟩
      · rw [if_neg (by rintro (q | q) <;> contradiction)] at hp
        cases hp
  rw [if_neg h4] at hp ⊢
  refine mE_if_eq_t 47 rfl rfl rfl ?_
  refine mE_ildn 48 rfl rfl rfl rfl ?_
  refine mE_bip 50 41 rfl rfl rfl ?_
  by_cases h41 : b = 41
  · rw [if_pos h41] at hp
    by_cases hd : dp = 0
    rotate_left
    · rw [if_neg hd] at hp
      cases hp
    refine mE_ic_ne_f 53 rfl (fun q => q h41) rfl ?_
    refine mE_aldn 54 rfl rfl rfl rfl ?_
    refine mE_cv [] [] rfl rfl rfl rfl g8 rfl ?_
    have : mR (d + 5) 29 [.ref 8] h (fun r h' => r = some (.int 0) ∧ h' = h) := by
      refine mR_ix [(0, .ref 8)] rfl rfl rfl ?_
      refine mE_aldn 1 rfl rfl rfl rfl ?_
      refine mE_gf 4 rfl rfl g8 rfl rfl ?_
      refine mE_if_ne_f 7 rfl (fun q => q hd) rfl ?_
      refine mE_ico 8 0 rfl rfl rfl ?_
      exact mE_iret rfl ⟨rfl, rfl, rfl⟩
    obtain ⟨r, hB, kB, rfl, eB⟩ := this
    have eB := eB.symm
    subst eB
    refine ⟨_, _, kB, ?_⟩
    exact mE_iret rfl ⟨rfl, rfl, hR⟩
  rw [if_neg h41] at hp
  refine mE_ic_ne_t 58 rfl h41 rfl ?_
  refine mE_ildn 59 rfl rfl rfl rfl ?_
  refine mE_cs [.int b] [] rfl rfl rfl rfl rfl ?_
  obtain ⟨r, hh, k1, rfl, e9⟩ := r_strength (d + 4) b h
  have e9 := e9.symm
  subst e9
  refine ⟨_, _, k1, ?_⟩
  refine mE_istn 63 [(2, .int (strg b)), (0, .ref 8), (1, .int b)] rfl rfl rfl rfl ?_
  refine mE_ildn 64 rfl rfl rfl rfl ?_
  by_cases qs : strg b = 0
  · refine mE_if_eq_t 73 rfl qs rfl ?_
    refine mE_ico 74 0 rfl rfl rfl ?_
    exact mE_iret rfl ⟨rfl, rfl, hR⟩
  refine mE_if_eq_f 67 rfl qs rfl ?_
  refine mE_ildn 68 rfl rfl rfl rfl ?_
  refine mE_bip 70 33 rfl rfl rfl ?_
  by_cases q33 : b = 33
  · refine mE_ic_ne_f 73 rfl (fun q => q q33) rfl ?_
    refine mE_ico 74 0 rfl rfl rfl ?_
    exact mE_iret rfl ⟨rfl, rfl, hR⟩
  refine mE_ic_ne_t 75 rfl q33 rfl ?_
  refine mE_aldn 76 rfl rfl rfl rfl ?_
  refine mE_ildn 77 rfl rfl rfl rfl ?_
  refine mE_cv [.int b] [] rfl rfl rfl rfl g8 rfl ?_
  obtain ⟨r, hB, kB, v, c', rfl, hRB, hn⟩ := s_note (d := d + 4) hk hR b
  refine ⟨_, _, kB, ?_⟩
  have hv : v = 0 ∧ c' = c := by
    rcases hn with ⟨n1, n2, n3⟩ | ⟨n1, n2, n3, n4⟩ | ⟨n1, n2, n3, n4⟩ | ⟨⟨n1, n1'⟩, n2, n3⟩
    · rw [if_pos n1] at hp
      cases hp
    · have nb : ¬ isBo b := by rcases n1 with rfl | rfl | rfl <;> decide
      rw [if_neg nb, if_pos n1, if_pos n2] at hp
      cases hp
    · exact ⟨n3, n4⟩
    · rw [if_neg n1, if_neg n1', if_pos (strg_ne qs q33 n1 n1')] at hp
      cases hp
  obtain ⟨rfl, rfl⟩ := hv
  refine mE_if_eq_t 96 rfl rfl rfl ?_
  refine mE_ico 97 0 rfl rfl rfl ?_
  exact mE_iret rfl ⟨rfl, rfl, hRB⟩
end RSF
