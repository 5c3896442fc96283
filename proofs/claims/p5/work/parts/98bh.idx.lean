/-! the Reader, functionally: its cell lies at place 8 -/
theorem p_get {cal : Nat → List Value → mS → Option (Option Value × mS)} {scr : Option (Nat × (Nat → Int32))} {nL : Nat} {tab : Nat → Option mI} {P : Option Value → mS → Prop} {pc b n ci j q3 q4 k : Nat} {lv : mL} {st : List Value} {l : List mC} {s : Nat} {fs : List Value} {v : Value} (ht : tab pc = some (.getfield n, 3, ci, j, q3, q4)) (h0 : Nat.beq ci 100 = false) (hv : fs[j]? = some v) (hk : k < l.length) (kk : mE cal scr nL tab b (pc + 3, lv, v :: st, (l.set k (.inr (ci, fs)), s)) P) : mE cal scr nL tab (b + 1) (pc, lv, .ref k :: st, (l.set k (.inr (ci, fs)), s)) P :=
  mE_gf (h := (l.set k (.inr (ci, fs)), s)) (pc + 3) ht h0 (List.getElem?_set_self hk) hv rfl kk
theorem p_bld {cal : Nat → List Value → mS → Option (Option Value × mS)} {scr : Option (Nat × (Nat → Int32))} {nL : Nat} {tab : Nat → Option mI} {P : Option Value → mS → Prop} {pc b len q1 q2 q3 q4 : Nat} {lv : mL} {st : List Value} {h : mS} (pc1 : Nat) {i : Int32} (v : Int32) (ht : tab pc = some (.baload, len, q1, q2, q3, q4)) (h0 : ¬ i < 0) (hv : mbyt[i.toNatClampNeg]? = some v) (hp : pc + 1 = pc1) (k : mE cal scr nL tab b (pc1, lv, .int v :: st, h) P) : mE cal scr nL tab (b + 1) (pc, lv, .int i :: .retAddr 2 :: st, h) P := by
  subst hp
  exact mE_s ht (by simp only [mstep, mbld, if_neg h0, hv, mnx]) k
theorem p_alen {cal : Nat → List Value → mS → Option (Option Value × mS)} {scr : Option (Nat × (Nat → Int32))} {nL : Nat} {tab : Nat → Option mI} {P : Option Value → mS → Prop} {pc b len q1 q2 q3 q4 : Nat} {lv : mL} {st : List Value} {h : mS} (pc1 : Nat) (ht : tab pc = some (.arraylength, len, q1, q2, q3, q4)) (hp : pc + 1 = pc1) (k : mE cal scr nL tab b (pc1, lv, .int 10 :: st, h) P) : mE cal scr nL tab (b + 1) (pc, lv, .retAddr 2 :: st, h) P := by
  subst hp
  exact mE_s ht rfl k
theorem p_cj {scr : Option (Nat × (Nat → Int32))} {nL d : Nat} {tab : Nat → Option mI} {P : Option Value → mS → Prop} {pc b len n y q2 q3 q4 : Nat} {lv : mL} {st : List Value} {h : mS} (As : List Value) (rest : List Value) (ht : tab pc = some (.invokevirtual n, len, y, q2, q3, q4)) (h0 : Nat.blt y 10 = false) (hd : st.drop q2 = .retAddr 0 :: rest) (ha : (st.take q2).reverse = As) (hc : Nat.beq (mcl100 q3) 50 = true) (hr : (Nat.ble q2 st.length && (Nat.ble rest.length 8 && (rest.all mone && (st.take q2).all mone))) = true) (hk : mR d (y - 10) (.retAddr 0 :: As) h (fun r h' => mE (mcall d) scr nL tab b (pc + 3, lv, r.toList ++ rest, h') P)) : mE (mcall d) scr nL tab (b + 1) (pc, lv, st, h) P := by
  subst ha
  refine mE_call (y := y - 10) (as := .retAddr 0 :: (st.take q2).reverse) (rest := rest) ht ?_ hk
  show mstep scr nL pc lv st h (.invokevirtual n, len, y, q2, q3, q4) = _
  simp only [mstep, h0, cond_false, minv, Nat.blt_eq, show Nat.blt 0 2 = true from rfl, cond_true, hd, hc, hr, Bool.and_self]
abbrev isDg (b : Int32) : Prop := 48 ≤ b.toInt ∧ b.toInt ≤ 57
set_option maxRecDepth 10000 in
theorem r_isDigit (d : Nat) (b : Int32) (h : mS) : mR (d + 1) 32 [.int b] h (fun r h' => r = some (.int (if isDg b then 1 else 0)) ∧ h' = h) := by
  have e48 : (48 : Int32).toInt = 48 := by decide
  have e57 : (57 : Int32).toInt = 57 := by decide
  refine mR_ix [(0, .int b)] rfl rfl rfl ?_
  refine mE_ildn 1 rfl rfl rfl rfl ?_
  refine mE_bip 3 (48) rfl rfl rfl ?_
  refine mE_ic_lt rfl (fun h3 => ?_) (fun h3 => ?_)
  · refine mE_ico 17 (0) rfl rfl rfl ?_
    exact mE_iret rfl ⟨rfl, by rw [if_neg (show ¬ isDg b from fun q => by have := Int32.lt_iff_toInt_lt.mp h3; have := q.1; omega)], rfl⟩
  · refine mE_ildn 7 rfl rfl rfl rfl ?_
    refine mE_bip 9 (57) rfl rfl rfl ?_
    refine mE_ic_gt rfl (fun h9 => ?_) (fun h9 => ?_)
    · refine mE_ico 17 (0) rfl rfl rfl ?_
      exact mE_iret rfl ⟨rfl, by rw [if_neg (show ¬ isDg b from fun q => by have := Int32.lt_iff_toInt_lt.mp h9; have := q.2; omega)], rfl⟩
    · refine mE_ico 13 (1) rfl rfl rfl ?_
      refine mE_goto 17 rfl rfl ?_
      exact mE_iret rfl ⟨rfl, by rw [if_pos (show isDg b from ⟨by have := Int32.le_iff_toInt_le.mp (Int32.not_lt.mp h3); omega, by have := Int32.le_iff_toInt_le.mp (Int32.not_lt.mp h9); omega⟩)], rfl⟩
theorem of_range {b : Int32} (h0 : 0 ≤ b.toInt) (h1 : b.toInt ≤ 255) : ∃ n : Nat, n < 256 ∧ b = Int32.ofNat n := ⟨b.toInt.toNat, by omega, Int32.toInt_inj.mp (by
  rw [Int32.toInt_ofNat', bmod_id (by omega) (by omega)]
  omega)⟩
theorem i2b_all : (List.range 256).all (fun n => decide (0 ≤ (Int32.ofNat n).toInt8.toInt32.toInt → (Int32.ofNat n).toInt8.toInt32 = Int32.ofNat n)) = true := by decide +kernel
theorem i2c_all : (List.range 256).all (fun n => decide (((Int32.ofNat n).toUInt32 % 65536).toInt32 = Int32.ofNat n)) = true := by decide +kernel
theorem i2b_of {b c : Int32} (h0 : 0 ≤ b.toInt) (h1 : b.toInt ≤ 255) (hc : 0 ≤ c.toInt) (h : b.toInt8.toInt32 = c) : b = c := by
  obtain ⟨n, hn, rfl⟩ := of_range h0 h1
  have := of_decide_eq_true (List.all_eq_true.mp i2b_all n (List.mem_range.mpr hn))
  rw [h] at this
  exact (this hc).symm
theorem i2c_of {b : Int32} (h0 : 0 ≤ b.toInt) (h1 : b.toInt ≤ 255) : (b.toUInt32 % 65536).toInt32 = b := by
  obtain ⟨n, hn, rfl⟩ := of_range h0 h1
  exact of_decide_eq_true (List.all_eq_true.mp i2c_all n (List.mem_range.mpr hn))
set_option maxRecDepth 10000 in
theorem r_idxChar (d : Nat) {b : Int32} (h0 : 0 ≤ b.toInt) (h1 : b.toInt ≤ 255) (h : mS) : mR (d + 1) 168 [.retAddr 2, .int b, .int 0, .int 10] h (fun r h' => r = some (.int (midx b)) ∧ h' = h) := by
  refine mR_ix [(0, .retAddr 2), (1, .int b), (2, .int 0), (3, .int 10)] rfl rfl rfl ?_
  refine mE_ildn 1 rfl rfl rfl rfl ?_
  refine mE_i2b 2 b.toInt8.toInt32 rfl rfl rfl ?_
  refine mE_ist 4 [(4, .int b.toInt8.toInt32), (0, .retAddr 2), (1, .int b), (2, .int 0), (3, .int 10)] rfl rfl rfl rfl ?_
  refine mE_ildn 5 rfl rfl rfl rfl ?_
  refine mE_ist 7 [(5, .int 0), (4, .int b.toInt8.toInt32), (0, .retAddr 2), (1, .int b), (2, .int 0), (3, .int 10)] rfl rfl rfl rfl ?_
  refine mE_ild 9 rfl rfl rfl rfl ?_
  refine mE_ildn 10 rfl rfl rfl rfl ?_
  refine mE_ic_ge_f 13 rfl (by decide) rfl ?_
  refine mE_aldn 14 rfl rfl rfl rfl ?_
  refine mE_ild 16 rfl rfl rfl rfl ?_
  refine p_bld 17 119 rfl (by decide) rfl rfl ?_
  refine mE_ild 19 rfl rfl rfl rfl ?_
  by_cases q0 : b = 119
  · subst q0
    refine mE_ic_ne_f 22 rfl (by decide) rfl ?_
    refine mE_ild 24 rfl rfl rfl rfl ?_
    exact mE_iret rfl ⟨rfl, rfl, rfl⟩
  refine mE_ic_ne_t 25 rfl (fun e => q0 (i2b_of h0 h1 (by decide) e.symm)) rfl ?_
  refine mE_iinc 28 1 [(5, .int 1), (4, .int b.toInt8.toInt32), (0, .retAddr 2), (1, .int b), (2, .int 0), (3, .int 10)] rfl rfl rfl rfl rfl rfl ?_
  refine mE_goto 7 rfl rfl ?_
  refine mE_ild 9 rfl rfl rfl rfl ?_
  refine mE_ildn 10 rfl rfl rfl rfl ?_
  refine mE_ic_ge_f 13 rfl (by decide) rfl ?_
  refine mE_aldn 14 rfl rfl rfl rfl ?_
  refine mE_ild 16 rfl rfl rfl rfl ?_
  refine p_bld 17 121 rfl (by decide) rfl rfl ?_
  refine mE_ild 19 rfl rfl rfl rfl ?_
  by_cases q1 : b = 121
  · subst q1
    refine mE_ic_ne_f 22 rfl (by decide) rfl ?_
    refine mE_ild 24 rfl rfl rfl rfl ?_
    exact mE_iret rfl ⟨rfl, rfl, rfl⟩
  refine mE_ic_ne_t 25 rfl (fun e => q1 (i2b_of h0 h1 (by decide) e.symm)) rfl ?_
  refine mE_iinc 28 2 [(5, .int 2), (4, .int b.toInt8.toInt32), (0, .retAddr 2), (1, .int b), (2, .int 0), (3, .int 10)] rfl rfl rfl rfl rfl rfl ?_
  refine mE_goto 7 rfl rfl ?_
  refine mE_ild 9 rfl rfl rfl rfl ?_
  refine mE_ildn 10 rfl rfl rfl rfl ?_
  refine mE_ic_ge_f 13 rfl (by decide) rfl ?_
  refine mE_aldn 14 rfl rfl rfl rfl ?_
  refine mE_ild 16 rfl rfl rfl rfl ?_
  refine p_bld 17 102 rfl (by decide) rfl rfl ?_
  refine mE_ild 19 rfl rfl rfl rfl ?_
  by_cases q2 : b = 102
  · subst q2
    refine mE_ic_ne_f 22 rfl (by decide) rfl ?_
    refine mE_ild 24 rfl rfl rfl rfl ?_
    exact mE_iret rfl ⟨rfl, rfl, rfl⟩
  refine mE_ic_ne_t 25 rfl (fun e => q2 (i2b_of h0 h1 (by decide) e.symm)) rfl ?_
  refine mE_iinc 28 3 [(5, .int 3), (4, .int b.toInt8.toInt32), (0, .retAddr 2), (1, .int b), (2, .int 0), (3, .int 10)] rfl rfl rfl rfl rfl rfl ?_
  refine mE_goto 7 rfl rfl ?_
  refine mE_ild 9 rfl rfl rfl rfl ?_
  refine mE_ildn 10 rfl rfl rfl rfl ?_
  refine mE_ic_ge_f 13 rfl (by decide) rfl ?_
  refine mE_aldn 14 rfl rfl rfl rfl ?_
  refine mE_ild 16 rfl rfl rfl rfl ?_
  refine p_bld 17 115 rfl (by decide) rfl rfl ?_
  refine mE_ild 19 rfl rfl rfl rfl ?_
  by_cases q3 : b = 115
  · subst q3
    refine mE_ic_ne_f 22 rfl (by decide) rfl ?_
    refine mE_ild 24 rfl rfl rfl rfl ?_
    exact mE_iret rfl ⟨rfl, rfl, rfl⟩
  refine mE_ic_ne_t 25 rfl (fun e => q3 (i2b_of h0 h1 (by decide) e.symm)) rfl ?_
  refine mE_iinc 28 4 [(5, .int 4), (4, .int b.toInt8.toInt32), (0, .retAddr 2), (1, .int b), (2, .int 0), (3, .int 10)] rfl rfl rfl rfl rfl rfl ?_
  refine mE_goto 7 rfl rfl ?_
  refine mE_ild 9 rfl rfl rfl rfl ?_
  refine mE_ildn 10 rfl rfl rfl rfl ?_
  refine mE_ic_ge_f 13 rfl (by decide) rfl ?_
  refine mE_aldn 14 rfl rfl rfl rfl ?_
  refine mE_ild 16 rfl rfl rfl rfl ?_
  refine p_bld 17 99 rfl (by decide) rfl rfl ?_
  refine mE_ild 19 rfl rfl rfl rfl ?_
  by_cases q4 : b = 99
  · subst q4
    refine mE_ic_ne_f 22 rfl (by decide) rfl ?_
    refine mE_ild 24 rfl rfl rfl rfl ?_
    exact mE_iret rfl ⟨rfl, rfl, rfl⟩
  refine mE_ic_ne_t 25 rfl (fun e => q4 (i2b_of h0 h1 (by decide) e.symm)) rfl ?_
  refine mE_iinc 28 5 [(5, .int 5), (4, .int b.toInt8.toInt32), (0, .retAddr 2), (1, .int b), (2, .int 0), (3, .int 10)] rfl rfl rfl rfl rfl rfl ?_
  refine mE_goto 7 rfl rfl ?_
  refine mE_ild 9 rfl rfl rfl rfl ?_
  refine mE_ildn 10 rfl rfl rfl rfl ?_
  refine mE_ic_ge_f 13 rfl (by decide) rfl ?_
  refine mE_aldn 14 rfl rfl rfl rfl ?_
  refine mE_ild 16 rfl rfl rfl rfl ?_
  refine p_bld 17 103 rfl (by decide) rfl rfl ?_
  refine mE_ild 19 rfl rfl rfl rfl ?_
  by_cases q5 : b = 103
  · subst q5
    refine mE_ic_ne_f 22 rfl (by decide) rfl ?_
    refine mE_ild 24 rfl rfl rfl rfl ?_
    exact mE_iret rfl ⟨rfl, rfl, rfl⟩
  refine mE_ic_ne_t 25 rfl (fun e => q5 (i2b_of h0 h1 (by decide) e.symm)) rfl ?_
  refine mE_iinc 28 6 [(5, .int 6), (4, .int b.toInt8.toInt32), (0, .retAddr 2), (1, .int b), (2, .int 0), (3, .int 10)] rfl rfl rfl rfl rfl rfl ?_
  refine mE_goto 7 rfl rfl ?_
  refine mE_ild 9 rfl rfl rfl rfl ?_
  refine mE_ildn 10 rfl rfl rfl rfl ?_
  refine mE_ic_ge_f 13 rfl (by decide) rfl ?_
  refine mE_aldn 14 rfl rfl rfl rfl ?_
  refine mE_ild 16 rfl rfl rfl rfl ?_
  refine p_bld 17 100 rfl (by decide) rfl rfl ?_
  refine mE_ild 19 rfl rfl rfl rfl ?_
  by_cases q6 : b = 100
  · subst q6
    refine mE_ic_ne_f 22 rfl (by decide) rfl ?_
    refine mE_ild 24 rfl rfl rfl rfl ?_
    exact mE_iret rfl ⟨rfl, rfl, rfl⟩
  refine mE_ic_ne_t 25 rfl (fun e => q6 (i2b_of h0 h1 (by decide) e.symm)) rfl ?_
  refine mE_iinc 28 7 [(5, .int 7), (4, .int b.toInt8.toInt32), (0, .retAddr 2), (1, .int b), (2, .int 0), (3, .int 10)] rfl rfl rfl rfl rfl rfl ?_
  refine mE_goto 7 rfl rfl ?_
  refine mE_ild 9 rfl rfl rfl rfl ?_
  refine mE_ildn 10 rfl rfl rfl rfl ?_
  refine mE_ic_ge_f 13 rfl (by decide) rfl ?_
  refine mE_aldn 14 rfl rfl rfl rfl ?_
  refine mE_ild 16 rfl rfl rfl rfl ?_
  refine p_bld 17 98 rfl (by decide) rfl rfl ?_
  refine mE_ild 19 rfl rfl rfl rfl ?_
  by_cases q7 : b = 98
  · subst q7
    refine mE_ic_ne_f 22 rfl (by decide) rfl ?_
    refine mE_ild 24 rfl rfl rfl rfl ?_
    exact mE_iret rfl ⟨rfl, rfl, rfl⟩
  refine mE_ic_ne_t 25 rfl (fun e => q7 (i2b_of h0 h1 (by decide) e.symm)) rfl ?_
  refine mE_iinc 28 8 [(5, .int 8), (4, .int b.toInt8.toInt32), (0, .retAddr 2), (1, .int b), (2, .int 0), (3, .int 10)] rfl rfl rfl rfl rfl rfl ?_
  refine mE_goto 7 rfl rfl ?_
  refine mE_ild 9 rfl rfl rfl rfl ?_
  refine mE_ildn 10 rfl rfl rfl rfl ?_
  refine mE_ic_ge_f 13 rfl (by decide) rfl ?_
  refine mE_aldn 14 rfl rfl rfl rfl ?_
  refine mE_ild 16 rfl rfl rfl rfl ?_
  refine p_bld 17 110 rfl (by decide) rfl rfl ?_
  refine mE_ild 19 rfl rfl rfl rfl ?_
  by_cases q8 : b = 110
  · subst q8
    refine mE_ic_ne_f 22 rfl (by decide) rfl ?_
    refine mE_ild 24 rfl rfl rfl rfl ?_
    exact mE_iret rfl ⟨rfl, rfl, rfl⟩
  refine mE_ic_ne_t 25 rfl (fun e => q8 (i2b_of h0 h1 (by decide) e.symm)) rfl ?_
  refine mE_iinc 28 9 [(5, .int 9), (4, .int b.toInt8.toInt32), (0, .retAddr 2), (1, .int b), (2, .int 0), (3, .int 10)] rfl rfl rfl rfl rfl rfl ?_
  refine mE_goto 7 rfl rfl ?_
  refine mE_ild 9 rfl rfl rfl rfl ?_
  refine mE_ildn 10 rfl rfl rfl rfl ?_
  refine mE_ic_ge_f 13 rfl (by decide) rfl ?_
  refine mE_aldn 14 rfl rfl rfl rfl ?_
  refine mE_ild 16 rfl rfl rfl rfl ?_
  refine p_bld 17 104 rfl (by decide) rfl rfl ?_
  refine mE_ild 19 rfl rfl rfl rfl ?_
  by_cases q9 : b = 104
  · subst q9
    refine mE_ic_ne_f 22 rfl (by decide) rfl ?_
    refine mE_ild 24 rfl rfl rfl rfl ?_
    exact mE_iret rfl ⟨rfl, rfl, rfl⟩
  refine mE_ic_ne_t 25 rfl (fun e => q9 (i2b_of h0 h1 (by decide) e.symm)) rfl ?_
  refine mE_iinc 28 10 [(5, .int 10), (4, .int b.toInt8.toInt32), (0, .retAddr 2), (1, .int b), (2, .int 0), (3, .int 10)] rfl rfl rfl rfl rfl rfl ?_
  refine mE_goto 7 rfl rfl ?_
  refine mE_ild 9 rfl rfl rfl rfl ?_
  refine mE_ildn 10 rfl rfl rfl rfl ?_
  refine mE_ic_ge_t 31 rfl (by decide) rfl ?_
  refine mE_ico 32 (-1) rfl rfl rfl ?_
  exact mE_iret rfl ⟨rfl, by unfold midx; rw [if_neg q0, if_neg q1, if_neg q2, if_neg q3, if_neg q4, if_neg q5, if_neg q6, if_neg q7, if_neg q8, if_neg q9], rfl⟩
set_option maxRecDepth 10000 in
theorem r_canEnc (d : Nat) {b : Int32} (h0 : 0 ≤ b.toInt) (h1 : b.toInt ≤ 255) (h : mS) : mR (d + 1) 166 [.int b] h (fun r h' => r = some (.int 1) ∧ h' = h) := by
  have e0 : (0 : Int32).toInt = 0 := by decide
  have e255 : (255 : Int32).toInt = 255 := by decide
  refine mR_ix [(0, .int b)] rfl rfl rfl ?_
  refine mE_ildn 1 rfl rfl rfl rfl ?_
  refine mE_if_lt_f 4 rfl (fun q => by have := Int32.lt_iff_toInt_lt.mp q; omega) rfl ?_
  refine mE_ildn 5 rfl rfl rfl rfl ?_
  refine mE_sip 8 255 rfl rfl rfl ?_
  refine mE_ic_gt_f 11 rfl (fun q => by have := Int32.lt_iff_toInt_lt.mp q; omega) rfl ?_
  refine mE_ico 12 1 rfl rfl rfl ?_
  refine mE_goto 16 rfl rfl ?_
  exact mE_iret rfl ⟨rfl, rfl, rfl⟩
set_option maxRecDepth 10000 in
theorem r_idx1 (d : Nat) {b : Int32} (h0 : 0 ≤ b.toInt) (h1 : b.toInt ≤ 255) (h : mS) : mR (d + 2) 167 [.retAddr 2, .int b, .int 0, .int 10] h (fun r h' => r = some (.int (midx b)) ∧ h' = h) := by
  refine mR_ix [(0, .retAddr 2), (1, .int b), (2, .int 0), (3, .int 10)] rfl rfl rfl ?_
  refine mE_ildn 1 rfl rfl rfl rfl ?_
  refine mE_cs [.int b] [] rfl rfl rfl rfl rfl ?_
  obtain ⟨r, hh, k1, rfl, e1⟩ := r_canEnc d h0 h1 h
  subst e1
  refine ⟨_, _, k1, ?_⟩
  refine mE_if_ne_t 9 rfl (by decide) rfl ?_
  refine mE_ildn 10 rfl rfl rfl rfl ?_
  refine mE_ico 11 0 rfl rfl rfl ?_
  refine mE_max 14 0 rfl rfl rfl rfl rfl ?_
  refine mE_istn 15 [(2, .int 0), (0, .retAddr 2), (1, .int b), (3, .int 10)] rfl rfl rfl rfl ?_
  refine mE_ildn 16 rfl rfl rfl rfl ?_
  refine mE_aldn 17 rfl rfl rfl rfl ?_
  refine p_alen 18 rfl rfl ?_
  refine mE_min 21 10 rfl rfl rfl rfl rfl ?_
  refine mE_istn 22 [(3, .int 10), (2, .int 0), (0, .retAddr 2), (1, .int b)] rfl rfl rfl rfl ?_
  refine mE_ildn 23 rfl rfl rfl rfl ?_
  refine mE_ildn 24 rfl rfl rfl rfl ?_
  refine mE_ic_lt_t 29 rfl (by decide) rfl ?_
  refine mE_aldn 30 rfl rfl rfl rfl ?_
  refine mE_ildn 31 rfl rfl rfl rfl ?_
  refine mE_ildn 32 rfl rfl rfl rfl ?_
  refine mE_ildn 33 rfl rfl rfl rfl ?_
  refine mE_cs [.retAddr 2, .int b, .int 0, .int 10] [] rfl rfl rfl rfl rfl ?_
  obtain ⟨r, hh2, k2, rfl, e2⟩ := r_idxChar d h0 h1 hh
  subst e2
  refine ⟨_, _, k2, ?_⟩
  exact mE_iret rfl ⟨rfl, rfl, rfl⟩
set_option maxRecDepth 10000 in
theorem r_latin (d : Nat) (h : mS) : mR (d + 1) 165 [.retAddr 0] h (fun r h' => r = some (.int 1) ∧ h' = h) := by
  refine mR_ix [(0, .retAddr 0)] rfl rfl rfl ?_
  refine mE_gs 3 rfl rfl ?_
  refine mE_if_eq_f 6 rfl (by decide) rfl ?_
  refine mE_aldn 7 rfl rfl rfl rfl ?_
  refine mE_gc 10 rfl rfl rfl rfl ?_
  refine mE_if_ne_f 13 rfl (by decide) rfl ?_
  refine mE_ico 14 1 rfl rfl rfl ?_
  refine mE_goto 18 rfl rfl ?_
  exact mE_iret rfl ⟨rfl, rfl, rfl⟩
set_option maxRecDepth 10000 in
theorem r_coder (d : Nat) (h : mS) : mR (d + 1) 164 [.retAddr 0] h (fun r h' => r = some (.int 0) ∧ h' = h) := by
  refine mR_ix [(0, .retAddr 0)] rfl rfl rfl ?_
  refine mE_gs 3 rfl rfl ?_
  refine mE_if_eq_f 6 rfl (by decide) rfl ?_
  refine mE_aldn 7 rfl rfl rfl rfl ?_
  refine mE_gc 10 rfl rfl rfl rfl ?_
  refine mE_goto 14 rfl rfl ?_
  exact mE_iret rfl ⟨rfl, rfl, rfl⟩
set_option maxRecDepth 10000 in
theorem r_slen (d : Nat) (h : mS) : mR (d + 2) 161 [.retAddr 0] h (fun r h' => r = some (.int 10) ∧ h' = h) := by
  refine mR_ix [(0, .retAddr 0)] rfl rfl rfl ?_
  refine mE_aldn 1 rfl rfl rfl rfl ?_
  refine mE_gv 4 rfl rfl rfl rfl ?_
  refine p_alen 5 rfl rfl ?_
  refine mE_aldn 6 rfl rfl rfl rfl ?_
  refine p_cj [] [.int 10] rfl rfl rfl rfl rfl rfl ?_
  obtain ⟨r, hh, k1, rfl, e1⟩ := r_coder d h
  subst e1
  refine ⟨_, _, k1, ?_⟩
  refine mE_ishr 10 10 rfl rfl rfl ?_
  exact mE_iret rfl ⟨rfl, rfl, rfl⟩
set_option maxRecDepth 10000 in
theorem r_idx2 (d : Nat) {b : Int32} (h0 : 0 ≤ b.toInt) (h1 : b.toInt ≤ 255) (h : mS) : mR (d + 3) 163 [.retAddr 0, .int b, .int 0] h (fun r h' => r = some (.int (midx b)) ∧ h' = h) := by
  refine mR_ix [(0, .retAddr 0), (1, .int b), (2, .int 0)] rfl rfl rfl ?_
  refine mE_aldn 1 rfl rfl rfl rfl ?_
  refine p_cj [] [] rfl rfl rfl rfl rfl rfl ?_
  obtain ⟨r, hh, k1, rfl, e1⟩ := r_latin (d + 1) h
  subst e1
  refine ⟨_, _, k1, ?_⟩
  refine mE_if_eq_f 7 rfl (by decide) rfl ?_
  refine mE_aldn 8 rfl rfl rfl rfl ?_
  refine mE_gv 11 rfl rfl rfl rfl ?_
  refine mE_ildn 12 rfl rfl rfl rfl ?_
  refine mE_ildn 13 rfl rfl rfl rfl ?_
  refine mE_aldn 14 rfl rfl rfl rfl ?_
  refine p_cj [] [.int 0, .int b, .retAddr 2] rfl rfl rfl rfl rfl rfl ?_
  obtain ⟨r, hh2, k2, rfl, e2⟩ := r_slen d hh
  subst e2
  refine ⟨_, _, k2, ?_⟩
  refine mE_cs [.retAddr 2, .int b, .int 0, .int 10] [] rfl rfl rfl rfl rfl ?_
  obtain ⟨r, hh3, k3, rfl, e3⟩ := r_idx1 d h0 h1 hh2
  subst e3
  refine ⟨_, _, k3, ?_⟩
  refine mE_goto 36 rfl rfl ?_
  exact mE_iret rfl ⟨rfl, rfl, rfl⟩
set_option maxRecDepth 10000 in
theorem r_indexOf (d : Nat) {b : Int32} (h0 : 0 ≤ b.toInt) (h1 : b.toInt ≤ 255) (h : mS) : mR (d + 4) 162 [.retAddr 0, .int b] h (fun r h' => r = some (.int (midx b)) ∧ h' = h) := by
  refine mR_ix [(0, .retAddr 0), (1, .int b)] rfl rfl rfl ?_
  refine mE_aldn 1 rfl rfl rfl rfl ?_
  refine mE_ildn 2 rfl rfl rfl rfl ?_
  refine mE_ico 3 0 rfl rfl rfl ?_
  refine p_cj [.int b, .int 0] [] rfl rfl rfl rfl rfl rfl ?_
  obtain ⟨r, hh, k1, rfl, e1⟩ := r_idx2 d h0 h1 h
  subst e1
  refine ⟨_, _, k1, ?_⟩
  exact mE_iret rfl ⟨rfl, rfl, rfl⟩
def strg (b : Int32) : Int32 := if b = 124 then 1 else if b = 38 then 2 else if b = 33 then 3 else if b = 60 ∨ b = 61 ∨ b = 62 then 4 else if b = 43 ∨ b = 45 then 5 else if b = 42 then 6 else 0
set_option maxRecDepth 10000 in
theorem r_strength (d : Nat) (b : Int32) (h : mS) : mR (d + 1) 33 [.int b] h (fun r h' => r = some (.int (strg b)) ∧ h' = h) := by
  refine mR_ix [(0, .int b)] rfl rfl rfl ?_
  refine mE_ildn 1 rfl rfl rfl rfl ?_
  by_cases q33 : b = 33
  · subst q33
    refine mE_lsw 88 rfl rfl (by decide) rfl ?_
    refine mE_ico 89 3 rfl rfl rfl ?_
    exact mE_iret rfl ⟨rfl, rfl, rfl⟩
  by_cases q38 : b = 38
  · subst q38
    refine mE_lsw 86 rfl rfl (by decide) rfl ?_
    refine mE_ico 87 2 rfl rfl rfl ?_
    exact mE_iret rfl ⟨rfl, rfl, rfl⟩
  by_cases q42 : b = 42
  · subst q42
    refine mE_lsw 94 rfl rfl (by decide) rfl ?_
    refine mE_bip 96 6 rfl rfl rfl ?_
    exact mE_iret rfl ⟨rfl, rfl, rfl⟩
  by_cases q43 : b = 43
  · subst q43
    refine mE_lsw 92 rfl rfl (by decide) rfl ?_
    refine mE_ico 93 5 rfl rfl rfl ?_
    exact mE_iret rfl ⟨rfl, rfl, rfl⟩
  by_cases q45 : b = 45
  · subst q45
    refine mE_lsw 92 rfl rfl (by decide) rfl ?_
    refine mE_ico 93 5 rfl rfl rfl ?_
    exact mE_iret rfl ⟨rfl, rfl, rfl⟩
  by_cases q60 : b = 60
  · subst q60
    refine mE_lsw 90 rfl rfl (by decide) rfl ?_
    refine mE_ico 91 4 rfl rfl rfl ?_
    exact mE_iret rfl ⟨rfl, rfl, rfl⟩
  by_cases q61 : b = 61
  · subst q61
    refine mE_lsw 90 rfl rfl (by decide) rfl ?_
    refine mE_ico 91 4 rfl rfl rfl ?_
    exact mE_iret rfl ⟨rfl, rfl, rfl⟩
  by_cases q62 : b = 62
  · subst q62
    refine mE_lsw 90 rfl rfl (by decide) rfl ?_
    refine mE_ico 91 4 rfl rfl rfl ?_
    exact mE_iret rfl ⟨rfl, rfl, rfl⟩
  by_cases q124 : b = 124
  · subst q124
    refine mE_lsw 84 rfl rfl (by decide) rfl ?_
    refine mE_ico 85 1 rfl rfl rfl ?_
    exact mE_iret rfl ⟨rfl, rfl, rfl⟩
  have ne : ∀ c : Int32, ¬ b = c → ¬ c.toInt = b.toInt := fun c hc e => hc (Int32.toInt_inj.mp e.symm)
  have hoff : Op.lookupswitch.offset [(33, 87), (38, 85), (42, 93), (43, 91), (45, 91), (60, 89), (61, 89), (62, 89), (124, 83)] 96 b.toInt = 96 := by
    simp only [Op.lookupswitch.offset_cons, Op.lookupswitch.offset_nil]
    rw [if_neg (show ¬ (33 : Int) = b.toInt from ne 33 q33), if_neg (show ¬ (38 : Int) = b.toInt from ne 38 q38), if_neg (show ¬ (42 : Int) = b.toInt from ne 42 q42), if_neg (show ¬ (43 : Int) = b.toInt from ne 43 q43), if_neg (show ¬ (45 : Int) = b.toInt from ne 45 q45), if_neg (show ¬ (60 : Int) = b.toInt from ne 60 q60), if_neg (show ¬ (61 : Int) = b.toInt from ne 61 q61), if_neg (show ¬ (62 : Int) = b.toInt from ne 62 q62), if_neg (show ¬ (124 : Int) = b.toInt from ne 124 q124)]
  refine mE_lsw 97 rfl hoff (by decide) rfl ?_
  refine mE_ico 98 0 rfl rfl rfl ?_
  exact mE_iret rfl ⟨rfl, by unfold strg; rw [if_neg q124, if_neg q38, if_neg q33, if_neg (by rintro (q | q | q) <;> contradiction), if_neg (by rintro (q | q) <;> contradiction), if_neg q42], rfl⟩
