/-! the class's reckoning: its steps run -/
set_option maxRecDepth 10000 in
theorem r_apply (d : Nat) (b v w : Int32) (h : mS) : mR (d + 1) 37 [.int b, .int v, .int w] h (fun r h' => r = some (.int (eApp b v w)) ∧ h' = h) := by
  refine mR_ix [(0, .int b), (1, .int v), (2, .int w)] rfl rfl rfl ?_
  refine mE_ildn 1 rfl rfl rfl rfl ?_
  by_cases q38 : b = 38
  · subst q38
    refine mE_lsw 82 rfl rfl (by decide) rfl ?_
    refine mE_ildn 83 rfl rfl rfl rfl ?_
    by_cases hv : v = 0
    · refine mE_if_eq_t 94 rfl hv rfl ?_
      refine mE_ico 95 0 rfl rfl rfl ?_
      exact mE_iret rfl ⟨rfl, by rw [hv]; rfl, rfl⟩
    · refine mE_if_eq_f 86 rfl hv rfl ?_
      refine mE_ildn 87 rfl rfl rfl rfl ?_
      by_cases hw : w = 0
      · refine mE_if_eq_t 94 rfl hw rfl ?_
        refine mE_ico 95 0 rfl rfl rfl ?_
        refine mE_iret rfl ⟨rfl, ?_, rfl⟩
        show some (Value.int 0) = some (.int (bool (!(v == 0) && !(w == 0))))
        rw [beq_false hv, hw]
        rfl
      · refine mE_if_eq_f 90 rfl hw rfl ?_
        refine mE_ico 91 1 rfl rfl rfl ?_
        refine mE_goto 95 rfl rfl ?_
        refine mE_iret rfl ⟨rfl, ?_, rfl⟩
        show some (Value.int 1) = some (.int (bool (!(v == 0) && !(w == 0))))
        rw [beq_false hv, beq_false hw]
        rfl
  by_cases q43 : b = 43
  · subst q43
    refine mE_lsw 129 rfl rfl (by decide) rfl ?_
    refine mE_ildn 130 rfl rfl rfl rfl ?_
    refine mE_ildn 131 rfl rfl rfl rfl ?_
    refine mE_iadd 132 (v + w) rfl rfl rfl ?_
    exact mE_iret rfl ⟨rfl, rfl, rfl⟩
  by_cases q45 : b = 45
  · subst q45
    refine mE_lsw 133 rfl rfl (by decide) rfl ?_
    refine mE_ildn 134 rfl rfl rfl rfl ?_
    refine mE_ildn 135 rfl rfl rfl rfl ?_
    refine mE_isub 136 (v - w) rfl rfl rfl ?_
    exact mE_iret rfl ⟨rfl, rfl, rfl⟩
  by_cases q60 : b = 60
  · subst q60
    refine mE_lsw 96 rfl rfl (by decide) rfl ?_
    refine mE_ildn 97 rfl rfl rfl rfl ?_
    refine mE_ildn 98 rfl rfl rfl rfl ?_
    by_cases hq : v < w
    · refine mE_ic_ge_f 101 rfl (Int32.not_le.mpr hq) rfl ?_
      refine mE_ico 102 1 rfl rfl rfl ?_
      refine mE_goto 106 rfl rfl ?_
      refine mE_iret rfl ⟨rfl, ?_, rfl⟩
      show some (Value.int 1) = some (.int (bool (decide (v < w))))
      rw [decide_eq_true hq]
      rfl
    · refine mE_ic_ge_t 105 rfl (Int32.not_lt.mp hq) rfl ?_
      refine mE_ico 106 0 rfl rfl rfl ?_
      refine mE_iret rfl ⟨rfl, ?_, rfl⟩
      show some (Value.int 0) = some (.int (bool (decide (v < w))))
      rw [decide_eq_false hq]
      rfl
  by_cases q61 : b = 61
  · subst q61
    refine mE_lsw 107 rfl rfl (by decide) rfl ?_
    refine mE_ildn 108 rfl rfl rfl rfl ?_
    refine mE_ildn 109 rfl rfl rfl rfl ?_
    by_cases hq : v = w
    · refine mE_ic_ne_f 112 rfl (fun q => q hq) rfl ?_
      refine mE_ico 113 1 rfl rfl rfl ?_
      refine mE_goto 117 rfl rfl ?_
      refine mE_iret rfl ⟨rfl, ?_, rfl⟩
      show some (Value.int 1) = some (.int (bool (v == w)))
      rw [hq, beq_self_eq_true]
      rfl
    · refine mE_ic_ne_t 116 rfl hq rfl ?_
      refine mE_ico 117 0 rfl rfl rfl ?_
      refine mE_iret rfl ⟨rfl, ?_, rfl⟩
      show some (Value.int 0) = some (.int (bool (v == w)))
      rw [beq_false hq]
      rfl
  by_cases q62 : b = 62
  · subst q62
    refine mE_lsw 118 rfl rfl (by decide) rfl ?_
    refine mE_ildn 119 rfl rfl rfl rfl ?_
    refine mE_ildn 120 rfl rfl rfl rfl ?_
    by_cases hq : w < v
    · refine mE_ic_le_f 123 rfl (Int32.not_le.mpr hq) rfl ?_
      refine mE_ico 124 1 rfl rfl rfl ?_
      refine mE_goto 128 rfl rfl ?_
      refine mE_iret rfl ⟨rfl, ?_, rfl⟩
      show some (Value.int 1) = some (.int (bool (decide (w < v))))
      rw [decide_eq_true hq]
      rfl
    · refine mE_ic_le_t 127 rfl (Int32.not_lt.mp hq) rfl ?_
      refine mE_ico 128 0 rfl rfl rfl ?_
      refine mE_iret rfl ⟨rfl, ?_, rfl⟩
      show some (Value.int 0) = some (.int (bool (decide (w < v))))
      rw [decide_eq_false hq]
      rfl
  by_cases q124 : b = 124
  · subst q124
    refine mE_lsw 68 rfl rfl (by decide) rfl ?_
    refine mE_ildn 69 rfl rfl rfl rfl ?_
    by_cases hv : v = 0
    · refine mE_if_ne_f 72 rfl (fun q => q hv) rfl ?_
      refine mE_ildn 73 rfl rfl rfl rfl ?_
      by_cases hw : w = 0
      · refine mE_if_eq_t 80 rfl hw rfl ?_
        refine mE_ico 81 0 rfl rfl rfl ?_
        exact mE_iret rfl ⟨rfl, by rw [hv, hw]; rfl, rfl⟩
      · refine mE_if_eq_f 76 rfl hw rfl ?_
        refine mE_ico 77 1 rfl rfl rfl ?_
        refine mE_goto 81 rfl rfl ?_
        refine mE_iret rfl ⟨rfl, ?_, rfl⟩
        show some (Value.int 1) = some (.int (bool (!(v == 0) || !(w == 0))))
        rw [beq_false hw, Bool.not_false, Bool.or_true]
        rfl
    · refine mE_if_ne_t 76 rfl hv rfl ?_
      refine mE_ico 77 1 rfl rfl rfl ?_
      refine mE_goto 81 rfl rfl ?_
      refine mE_iret rfl ⟨rfl, ?_, rfl⟩
      show some (Value.int 1) = some (.int (bool (!(v == 0) || !(w == 0))))
      rw [beq_false hv, Bool.not_false, Bool.true_or]
      rfl
  have ne : ∀ c : Int32, ¬ b = c → ¬ c.toInt = b.toInt := fun c hc e => hc (Int32.toInt_inj.mp e.symm)
  have hoff : Op.lookupswitch.offset [(38, 81), (43, 128), (45, 132), (60, 95), (61, 106), (62, 117), (124, 67)] 136 b.toInt = 136 := by
    simp only [Op.lookupswitch.offset_cons, Op.lookupswitch.offset_nil]
    rw [if_neg (show ¬ (38 : Int) = b.toInt from ne 38 q38), if_neg (show ¬ (43 : Int) = b.toInt from ne 43 q43), if_neg (show ¬ (45 : Int) = b.toInt from ne 45 q45), if_neg (show ¬ (60 : Int) = b.toInt from ne 60 q60), if_neg (show ¬ (61 : Int) = b.toInt from ne 61 q61), if_neg (show ¬ (62 : Int) = b.toInt from ne 62 q62), if_neg (show ¬ (124 : Int) = b.toInt from ne 124 q124)]
  refine mE_lsw 137 rfl hoff (by decide) rfl ?_
  refine mE_ildn 138 rfl rfl rfl rfl ?_
  refine mE_ildn 139 rfl rfl rfl rfl ?_
  refine mE_imul 140 (v * w) rfl rfl rfl ?_
  exact mE_iret rfl ⟨rfl, by unfold eApp; rw [if_neg q124, if_neg q38, if_neg q60, if_neg q61, if_neg q62, if_neg q43, if_neg q45], rfl⟩
/-- what the class's names stand for -/
def nuC (nm : List Int32) (i : Int32) : Int32 := if i.toInt < 10 then (nm[i.toNatClampNeg]?).getD 0 else 0
set_option maxRecDepth 10000 in
theorem r_named (d : Nat) {i : Int32} {h : mS} {nm : List Int32} (h13 : h.1[13]? = some (.inr (6, [.ref 14, .ref 15]))) (h14 : h.1[14]? = some (.inl (0, .inl nm))) (ln : nm.length = 10) (h0 : 0 ≤ i.toInt) : mR (d + 1) 36 [.ref 13, .int i] h (fun r h' => r = some (.int (nuC nm i)) ∧ h' = h) := by
  have e10 : (Int32.ofNat nm.length).toInt = 10 := by rw [ln]; rfl
  refine mR_ix [(0, .ref 13), (1, .int i)] rfl rfl rfl ?_
  refine mE_ildn 1 rfl rfl rfl rfl ?_
  refine mE_aldn 2 rfl rfl rfl rfl ?_
  refine mE_gf 5 rfl rfl h13 rfl rfl ?_
  refine mE_len 6 (Int32.ofNat nm.length) rfl h14 rfl rfl rfl ?_
  by_cases hi : i.toInt < 10
  · refine mE_ic_ge_f 9 rfl (fun q => by have := Int32.le_iff_toInt_le.mp q; omega) rfl ?_
    refine mE_aldn 10 rfl rfl rfl rfl ?_
    refine mE_gf 13 rfl rfl h13 rfl rfl ?_
    refine mE_ildn 14 rfl rfl rfl rfl ?_
    have hi2 : i.toNatClampNeg < nm.length := by have := nc_of (x := i) (n := i.toInt.toNat) (by omega); omega
    have hv : nm[i.toNatClampNeg]? = some nm[i.toNatClampNeg] := List.getElem?_eq_getElem hi2
    refine mE_ila 15 rfl h14 (fun q => by have := Int32.lt_iff_toInt_lt.mp q; have e0 : (0 : Int32).toInt = 0 := rfl; omega) hv rfl ?_
    refine mE_goto 19 rfl rfl ?_
    exact mE_iret rfl ⟨rfl, by unfold nuC; rw [if_pos hi, hv]; rfl, rfl⟩
  · refine mE_ic_ge_t 18 rfl (Int32.le_iff_toInt_le.mpr (by omega)) rfl ?_
    refine mE_ico 19 0 rfl rfl rfl ?_
    exact mE_iret rfl ⟨rfl, by unfold nuC; rw [if_neg hi], rfl⟩
theorem setm {A R : List Int32} {a z : Int32} {n : Nat} (h : n = A.length) : (A ++ a :: R).set n z = A ++ z :: R := by
  subst h
  induction A with
  | nil => rfl
  | cons b A ih => exact congrArg (b :: ·) ih
theorem getm {A R : List Int32} {a : Int32} {n : Nat} (h : n = A.length) : (A ++ a :: R)[n]? = some a := by
  subst h
  rw [List.getElem?_append_right (Nat.le_refl _), Nat.sub_self]
  rfl
def hV (l : List mC) (s0 : Nat) (vs : List Int32) : mS := (l.set 15 (.inl (0, .inl vs)), s0)
/-- what a reckoning finds -/
def rkC (l : List mC) (t : Nat) (nm st : List Int32) (sz ct : Int32) : Prop := (l[13]? = some (.inr (6, [.ref 14, .ref 15])) ∧ l[14]? = some (.inl (0, .inl nm)) ∧ 15 < l.length) ∧ (l[t]? = some (.inr (9, [.ref (t + 1), .ref (t + 2), .int sz, .int ct])) ∧ l[t + 2]? = some (.inl (0, .inl st)) ∧ (t ≠ 14 ∧ t ≠ 15 ∧ t + 2 ≠ 14 ∧ t + 2 ≠ 15)) ∧ nm.length = 10 ∧ st.length = 60
set_option maxRecDepth 10000 in
set_option maxHeartbeats 4000000 in
theorem r_reckon {d : Nat} {l : List mC} {s0 t : Nat} {nm st vs : List Int32} {sz ct : Int32} (hc : rkC l t nm st sz ct) (lv : vs.length = 60) {P : List Int32} (hP : ct.toInt = P.length) (hS : st.take P.length = P) {v : Int32} (hrun : pRun (nuC nm) P [] = [v]) : mR (d + 2) 35 [.ref 13, .ref t] (hV l s0 vs) (fun r h' => r = some (.int v) ∧ ∃ vs', h' = hV l s0 vs') := by
  obtain ⟨⟨c13, c14, c15⟩, ⟨cT, cS, ht⟩, ln, ls⟩ := hc
  have g13 : ∀ vs, (hV l s0 vs).1[13]? = some (.inr (6, [.ref 14, .ref 15])) := fun vs => (List.getElem?_set_ne (by decide)).trans c13
  have g14 : ∀ vs, (hV l s0 vs).1[14]? = some (.inl (0, .inl nm)) := fun vs => (List.getElem?_set_ne (by decide)).trans c14
  have g15 : ∀ vs, (hV l s0 vs).1[15]? = some (.inl (0, .inl vs)) := fun vs => List.getElem?_set_self c15
  have gT : ∀ vs, (hV l s0 vs).1[t]? = some (.inr (9, [.ref (t + 1), .ref (t + 2), .int sz, .int ct])) := fun vs => (List.getElem?_set_ne (by omega)).trans cT
  have gS : ∀ vs, (hV l s0 vs).1[t + 2]? = some (.inl (0, .inl st)) := fun vs => (List.getElem?_set_ne (by omega)).trans cS
  have sV : ∀ vs vs', ((hV l s0 vs).1.set 15 (.inl (0, .inl vs')), (hV l s0 vs).2) = hV l s0 vs' := fun vs vs' => by
    show ((l.set 15 _).set 15 _, s0) = _
    rw [List.set_set]
    rfl
  have hP60 : P.length ≤ 60 := by
    have := congrArg List.length hS
    rw [List.length_take] at this
    omega
  have e1 : (1 : Int32).toInt = 1 := by decide
  have e0 : (0 : Int32).toInt = 0 := by decide
  have key : ∀ (n : Nat) (Q : List Int32) (V R : List Int32) (i c : Int32), Q.length = n → i.toInt + n = P.length → P.drop (P.length - n) = Q → c.toInt = V.length → (V.length : Int) ≤ i.toInt → V.length + R.length = 60 → pRun (nuC nm) Q V = [v] → ∀ lv : mL, (lv = [(3, .int i), (2, .int c), (0, .ref 13), (1, .ref t)] ∨ (∃ x : Int32, lv = [(3, .int i), (2, .int c), (4, .int x), (0, .ref 13), (1, .ref t)]) ∨ ∃ x : Int32, lv = [(3, .int i), (4, .int x), (2, .int c), (0, .ref 13), (1, .ref t)]) → mE (mcall (d + 1)) none 5 (mgd 163 mtX6_reckon) (60 * n + 60) (4, lv, [], hV l s0 (V.reverse ++ R)) (fun r h' => mretok (some .int) r = true ∧ r = some (.int v) ∧ ∃ vs', h' = hV l s0 vs') := by
    intro n
    induction n with
    | zero =>
      intro Q V R i c hQ hi hd hcV hVi hVR hrun lv hlv
      have hQ0 : Q = [] := List.eq_nil_of_length_eq_zero hQ
      subst hQ0
      have hV1 : V = [v] := hrun
      subst hV1
      have fin : ∀ lv : mL, mget lv 0 = some (.ref 13) → mE (mcall (d + 1)) none 5 (mgd 163 mtX6_reckon) 20 (156, lv, [], hV l s0 ([v].reverse ++ R)) (fun r h' => mretok (some .int) r = true ∧ r = some (.int v) ∧ ∃ vs', h' = hV l s0 vs') := fun lv h0 => by
        refine mE_aldn 157 rfl h0 rfl rfl ?_
        refine mE_gf 160 rfl rfl (g13 _) rfl rfl ?_
        refine mE_ico 161 0 rfl rfl rfl ?_
        refine mE_ila 162 rfl (g15 _) (by decide) rfl rfl ?_
        exact mE_iret rfl ⟨rfl, rfl, _, rfl⟩
      rcases hlv with rfl | ⟨x, rfl⟩ | ⟨x, rfl⟩
      all_goals
        refine mE_ildn 5 rfl rfl rfl rfl ?_
        refine mE_aldn 6 rfl rfl rfl rfl ?_
        refine mE_gf 9 rfl rfl (gT _) rfl rfl ?_
        refine mE_ic_ge_t 156 rfl (Int32.le_iff_toInt_le.mpr (by omega)) rfl ?_
        exact mE_le (fin _ rfl) (Nat.le_of_ble_eq_true rfl)
    | succ n ih =>
      intro Q V R i c hQ hi hd hcV hVi hVR hrun lv hlv
      rw [show 60 * (n + 1) + 60 = (60 * n + 60) + 60 by omega]
      cases Q with
      | nil => simp at hQ
      | cons x Q =>
        have hQ' : Q.length = n := by simpa using hQ
        have hd' : P.drop (P.length - n) = Q := by
          have : P.length - n = (P.length - (n + 1)) + 1 := by omega
          rw [this, ← List.drop_drop, hd]
          rfl
        have hx : st[i.toNatClampNeg]? = some x := by
          rw [nc_of (x := i) (n := P.length - (n + 1)) (by omega)]
          have h1 : (P.drop (P.length - (n + 1)))[0]? = some x := by rw [hd]; rfl
          rw [List.getElem?_drop, Nat.add_zero] at h1
          have h2 : (st.take P.length)[P.length - (n + 1)]? = some x := by rw [hS]; exact h1
          rw [List.getElem?_take] at h2
          split at h2
          · exact h2
          · cases h2
        have hi1 : (i + 1).toInt = i.toInt + 1 := by rw [add_id (by omega) (by omega), e1]
        have hrun' : pRun (nuC nm) Q (pStp (nuC nm) x V) = [v] := hrun
        -- the end of a turn
        have nx : ∀ (V' R' : List Int32) (c' : Int32) (lv : mL), pStp (nuC nm) x V = V' → c'.toInt = V'.length → (V'.length : Int) ≤ i.toInt + 1 → V'.length + R'.length = 60 → (lv = [(2, .int c'), (4, .int x), (3, .int i), (0, .ref 13), (1, .ref t)] ∨ lv = [(4, .int x), (3, .int i), (2, .int c'), (0, .ref 13), (1, .ref t)]) → mE (mcall (d + 1)) none 5 (mgd 163 mtX6_reckon) (60 * n + 62) (150, lv, [], hV l s0 (V'.reverse ++ R')) (fun r h' => mretok (some .int) r = true ∧ r = some (.int v) ∧ ∃ vs', h' = hV l s0 vs') := by
          intro V' R' c' lv hst hc' hle hVR' hlv
          subst hst
          rcases hlv with rfl | rfl
          · refine mE_iinc 153 (i + 1) [(3, .int (i + 1)), (2, .int c'), (4, .int x), (0, .ref 13), (1, .ref t)] rfl rfl rfl rfl rfl rfl ?_
            refine mE_goto 4 rfl rfl ?_
            exact ih Q _ R' (i + 1) c' hQ' (by omega) hd' hc' (by omega) hVR' hrun' _ (Or.inr (Or.inl ⟨x, rfl⟩))
          · refine mE_iinc 153 (i + 1) [(3, .int (i + 1)), (4, .int x), (2, .int c'), (0, .ref 13), (1, .ref t)] rfl rfl rfl rfl rfl rfl ?_
            refine mE_goto 4 rfl rfl ?_
            exact ih Q _ R' (i + 1) c' hQ' (by omega) hd' hc' (by omega) hVR' hrun' _ (Or.inr (Or.inr ⟨x, rfl⟩))
        have e2000 : (2000 : Int32).toInt = 2000 := by decide
        have e1000 : (1000 : Int32).toInt = 1000 := by decide
        have body : mE (mcall (d + 1)) none 5 (mgd 163 mtX6_reckon) ((60 * n + 60) + 50) (20, [(4, .int x), (3, .int i), (2, .int c), (0, .ref 13), (1, .ref t)], [], hV l s0 (V.reverse ++ R)) (fun r h' => mretok (some .int) r = true ∧ r = some (.int v) ∧ ∃ vs', h' = hV l s0 vs') := by
          refine mE_ild 22 rfl rfl rfl rfl ?_
          refine mE_sip 25 2000 rfl rfl rfl ?_
          by_cases h2 : x < 2000
          · have hx2 := Int32.lt_iff_toInt_lt.mp h2
            refine mE_ic_ge_f 28 rfl (Int32.not_le.mpr h2) rfl ?_
            refine mE_ildn 29 rfl rfl rfl rfl ?_
            refine mE_aldn 30 rfl rfl rfl rfl ?_
            refine mE_gf 33 rfl rfl (g13 _) rfl rfl ?_
            refine mE_len 34 60 rfl (g15 _) rfl (by rw [List.length_append, List.length_reverse, hVR]; rfl) rfl ?_
            have e60 : (60 : Int32).toInt = 60 := by decide
            refine mE_ic_ge_f 37 rfl (fun q => by have := Int32.le_iff_toInt_le.mp q; omega) rfl ?_
            refine mE_aldn 38 rfl rfl rfl rfl ?_
            refine mE_gf 41 rfl rfl (g13 _) rfl rfl ?_
            refine mE_ildn 42 rfl rfl rfl rfl ?_
            cases R with
            | nil => simp at hVR; omega
            | cons r0 R =>
              have put : ∀ z : Int32, z = (if x < 1000 then x else nuC nm (x - 1000)) → mE (mcall (d + 1)) none 5 (mgd 163 mtX6_reckon) ((60 * n + 60) + 20) (65, [(4, .int x), (3, .int i), (2, .int c), (0, .ref 13), (1, .ref t)], [.int z, .int c, .ref 15], hV l s0 (V.reverse ++ r0 :: R)) (fun r h' => mretok (some .int) r = true ∧ r = some (.int v) ∧ ∃ vs', h' = hV l s0 vs') := by
                intro z hz
                refine mE_isa 66 V.length rfl (g15 _) (nc_of hcV) (fun q => by
                  rcases q with q | q
                  · exact nn_of hcV q
                  · simp at q; omega) rfl ?_
                rw [sV, setm (by simp)]
                have hc1 : (c + 1).toInt = c.toInt + 1 := by rw [add_id (by omega) (by omega), e1]
                refine mE_iinc 69 (c + 1) [(2, .int (c + 1)), (4, .int x), (3, .int i), (0, .ref 13), (1, .ref t)] rfl rfl rfl rfl rfl rfl ?_
                refine mE_goto 150 rfl rfl ?_
                have hstp : pStp (nuC nm) x V = z :: V := by
                  unfold pStp
                  rw [if_pos h2, hz]
                have := nx (z :: V) R (c + 1) _ hstp (by rw [hc1, List.length_cons]; omega) (by rw [List.length_cons]; omega) (by simp at hVR ⊢; omega) (Or.inl rfl)
                rw [List.reverse_cons, List.append_assoc] at this
                exact mE_le this (by omega)
              refine mE_ild 44 rfl rfl rfl rfl ?_
              refine mE_sip 47 1000 rfl rfl rfl ?_
              by_cases h1 : x < 1000
              · refine mE_ic_ge_f 50 rfl (Int32.not_le.mpr h1) rfl ?_
                refine mE_ild 52 rfl rfl rfl rfl ?_
                refine mE_goto 65 rfl rfl ?_
                exact mE_le (put x (by rw [if_pos h1])) (by omega)
              · have hx1 := Int32.le_iff_toInt_le.mp (Int32.not_lt.mp h1)
                refine mE_ic_ge_t 55 rfl (Int32.not_lt.mp h1) rfl ?_
                refine mE_aldn 56 rfl rfl rfl rfl ?_
                refine mE_ild 58 rfl rfl rfl rfl ?_
                refine mE_sip 61 1000 rfl rfl rfl ?_
                refine mE_isub 62 (x - 1000) rfl rfl rfl ?_
                refine mE_cv [.int (x - 1000)] [.int c, .ref 15] rfl rfl rfl rfl (g13 _) rfl ?_
                obtain ⟨r1, hA, kA, rfl, rfl⟩ := r_named d (i := x - 1000) (g13 (V.reverse ++ r0 :: R)) (g14 _) ln (by rw [sub_id (by omega) (by omega), e1000]; omega)
                refine ⟨_, _, kA, ?_⟩
                exact mE_le (put _ (by rw [if_neg h1])) (by omega)
          · refine mE_ic_ge_t 72 rfl (Int32.not_lt.mp h2) rfl ?_
            refine mE_ild 74 rfl rfl rfl rfl ?_
            refine mE_sip 77 2033 rfl rfl rfl ?_
            have bin : (¬ x = 2033 ∨ V = []) → mE (mcall (d + 1)) none 5 (mgd 163 mtX6_reckon) ((60 * n + 60) + 40) (111, [(4, .int x), (3, .int i), (2, .int c), (0, .ref 13), (1, .ref t)], [], hV l s0 (V.reverse ++ R)) (fun r h' => mretok (some .int) r = true ∧ r = some (.int v) ∧ ∃ vs', h' = hV l s0 vs') := by
              intro hor
              refine mE_ildn 112 rfl rfl rfl rfl ?_
              refine mE_ico 113 1 rfl rfl rfl ?_
              have small : V.length ≤ 1 → pStp (nuC nm) x V = V := fun hs => by
                unfold pStp
                rw [if_neg h2]
                by_cases h3 : x = 2033
                · rw [if_pos h3]
                  rcases hor with q | q
                  · exact absurd h3 q
                  · rw [q]
                · rw [if_neg h3]
                  match V, hs with
                  | [], _ => rfl
                  | [_], _ => rfl
              match V, hcV, hVi, hVR, hor, small, nx with
              | [], hcV, hVi, hVR, hor, small, nx =>
                refine mE_ic_le_t 150 rfl (Int32.le_iff_toInt_le.mpr (by simp at hcV; omega)) rfl ?_
                exact mE_le (nx [] R c _ (small (by decide)) hcV (by omega) hVR (Or.inr rfl)) (by omega)
              | [y], hcV, hVi, hVR, hor, small, nx =>
                refine mE_ic_le_t 150 rfl (Int32.le_iff_toInt_le.mpr (by simp at hcV; omega)) rfl ?_
                exact mE_le (nx [y] R c _ (small (Nat.le_refl _)) hcV (by omega) hVR (Or.inr rfl)) (by omega)
              | y :: w :: V, hcV, hVi, hVR, hor, small, nx =>
                have h3 : ¬ x = 2033 := by
                  rcases hor with q | q
                  · exact q
                  · cases q
                simp only [List.length_cons] at hcV hVi hVR
                refine mE_ic_le_f 116 rfl (fun q => by have := Int32.le_iff_toInt_le.mp q; omega) rfl ?_
                have em1 : (Int32.ofInt (-1)).toInt = -1 := by decide
                have hc1 : (c + Int32.ofInt (-1)).toInt = V.length + 1 := by rw [add_id (by omega) (by omega), em1]; omega
                generalize hcg : c + Int32.ofInt (-1) = c1 at hc1
                refine mE_iinc 119 c1 [(2, .int c1), (4, .int x), (3, .int i), (0, .ref 13), (1, .ref t)] rfl rfl rfl hcg rfl rfl ?_
                have hc2 : (c1 - 1).toInt = V.length := by rw [sub_id (by omega) (by omega), e1]; omega
                generalize hcg2 : c1 - 1 = c2 at hc2
                have hrev : (y :: w :: V).reverse ++ R = V.reverse ++ w :: y :: R := by simp
                have hrev2 : V.reverse ++ w :: y :: R = (V.reverse ++ [w]) ++ y :: R := by simp
                rw [hrev]
                refine mE_aldn 120 rfl rfl rfl rfl ?_
                refine mE_gf 123 rfl rfl (g13 _) rfl rfl ?_
                refine mE_ildn 124 rfl rfl rfl rfl ?_
                refine mE_ico 125 1 rfl rfl rfl ?_
                refine mE_isub 126 c2 rfl hcg2 rfl ?_
                refine mE_ild 128 rfl rfl rfl rfl ?_
                refine mE_sip 131 2000 rfl rfl rfl ?_
                refine mE_isub 132 (x - 2000) rfl rfl rfl ?_
                refine mE_aldn 133 rfl rfl rfl rfl ?_
                refine mE_gf 136 rfl rfl (g13 _) rfl rfl ?_
                refine mE_ildn 137 rfl rfl rfl rfl ?_
                refine mE_ico 138 1 rfl rfl rfl ?_
                refine mE_isub 139 c2 rfl hcg2 rfl ?_
                refine mE_ila 140 rfl (g15 _) (nn_of hc2) (by rw [nc_of hc2]; exact getm (by simp)) rfl ?_
                refine mE_aldn 141 rfl rfl rfl rfl ?_
                refine mE_gf 144 rfl rfl (g13 _) rfl rfl ?_
                refine mE_ildn 145 rfl rfl rfl rfl ?_
                refine mE_ila 146 rfl (g15 _) (nn_of hc1) (by rw [nc_of hc1, hrev2]; exact getm (by simp)) rfl ?_
                refine mE_cs [.int (x - 2000), .int w, .int y] [.int c2, .ref 15] rfl rfl rfl rfl rfl ?_
                obtain ⟨r1, hA, kA, rfl, rfl⟩ := r_apply d (x - 2000) w y (hV l s0 (V.reverse ++ w :: y :: R))
                refine ⟨_, _, kA, ?_⟩
                refine mE_isa 150 V.length rfl (g15 _) (nc_of hc2) (fun q => by
                  rcases q with q | q
                  · exact nn_of hc2 q
                  · simp at q; omega) rfl ?_
                rw [sV, setm (by simp)]
                have hstp : pStp (nuC nm) x (y :: w :: V) = eApp (x - 2000) w y :: V := by
                  unfold pStp
                  rw [if_neg h2, if_neg h3]
                have := nx (eApp (x - 2000) w y :: V) (y :: R) c1 _ hstp (by rw [hc1, List.length_cons]; omega) (by rw [List.length_cons]; omega) (by simp; omega) (Or.inl rfl)
                rw [List.reverse_cons, List.append_assoc] at this
                exact mE_le this (by omega)
            by_cases h3 : x = 2033
            · refine mE_ic_ne_f 80 rfl (fun q => q h3) rfl ?_
              refine mE_ildn 81 rfl rfl rfl rfl ?_
              cases V with
              | nil =>
                refine mE_if_le_t 111 rfl (Int32.le_iff_toInt_le.mpr (by simp at hcV; omega)) rfl ?_
                exact mE_le (bin (Or.inr rfl)) (by omega)
              | cons y V =>
                simp only [List.length_cons] at hcV hVi hVR
                refine mE_if_le_f 84 rfl (fun q => by have := Int32.le_iff_toInt_le.mp q; omega) rfl ?_
                have hc2 : (c - 1).toInt = V.length := by rw [sub_id (by omega) (by omega), e1]; omega
                generalize hcg2 : c - 1 = c2 at hc2
                have hrev : (y :: V).reverse ++ R = V.reverse ++ y :: R := by simp
                rw [hrev]
                refine mE_aldn 85 rfl rfl rfl rfl ?_
                refine mE_gf 88 rfl rfl (g13 _) rfl rfl ?_
                refine mE_ildn 89 rfl rfl rfl rfl ?_
                refine mE_ico 90 1 rfl rfl rfl ?_
                refine mE_isub 91 c2 rfl hcg2 rfl ?_
                refine mE_aldn 92 rfl rfl rfl rfl ?_
                refine mE_gf 95 rfl rfl (g13 _) rfl rfl ?_
                refine mE_ildn 96 rfl rfl rfl rfl ?_
                refine mE_ico 97 1 rfl rfl rfl ?_
                refine mE_isub 98 c2 rfl hcg2 rfl ?_
                refine mE_ila 99 rfl (g15 _) (nn_of hc2) (by rw [nc_of hc2]; exact getm (by simp)) rfl ?_
                have put : ∀ z : Int32, z = eNeg y → mE (mcall (d + 1)) none 5 (mgd 163 mtX6_reckon) ((60 * n + 60) + 10) (107, [(4, .int x), (3, .int i), (2, .int c), (0, .ref 13), (1, .ref t)], [.int z, .int c2, .ref 15], hV l s0 (V.reverse ++ y :: R)) (fun r h' => mretok (some .int) r = true ∧ r = some (.int v) ∧ ∃ vs', h' = hV l s0 vs') := by
                  intro z hz
                  refine mE_isa 108 V.length rfl (g15 _) (nc_of hc2) (fun q => by
                    rcases q with q | q
                    · exact nn_of hc2 q
                    · simp at q; omega) rfl ?_
                  rw [sV, setm (by simp)]
                  refine mE_goto 150 rfl rfl ?_
                  have hstp : pStp (nuC nm) x (y :: V) = z :: V := by
                    unfold pStp
                    rw [if_neg h2, if_pos h3, hz]
                  have := nx (z :: V) R c _ hstp (by rw [List.length_cons]; omega) (by rw [List.length_cons]; omega) (by simp; omega) (Or.inr rfl)
                  rw [List.reverse_cons, List.append_assoc] at this
                  exact mE_le this (by omega)
                by_cases hy : y = 0
                · refine mE_if_ne_f 102 rfl (fun q => q hy) rfl ?_
                  refine mE_ico 103 1 rfl rfl rfl ?_
                  refine mE_goto 107 rfl rfl ?_
                  exact mE_le (put 1 (by unfold eNeg; rw [if_pos hy])) (by omega)
                · refine mE_if_ne_t 106 rfl hy rfl ?_
                  refine mE_ico 107 0 rfl rfl rfl ?_
                  exact mE_le (put 0 (by unfold eNeg; rw [if_neg hy])) (by omega)
            · refine mE_ic_ne_t 111 rfl h3 rfl ?_
              exact mE_le (bin (Or.inl h3)) (by omega)
        have hge : ¬ ct ≤ i := fun q => by have := Int32.le_iff_toInt_le.mp q; omega
        have hi0 : ¬ i < 0 := fun q => by have := Int32.lt_iff_toInt_lt.mp q; omega
        rcases hlv with rfl | ⟨x', rfl⟩ | ⟨x', rfl⟩
        all_goals
          refine mE_ildn 5 rfl rfl rfl rfl ?_
          refine mE_aldn 6 rfl rfl rfl rfl ?_
          refine mE_gf 9 rfl rfl (gT _) rfl rfl ?_
          refine mE_ic_ge_f 12 rfl hge rfl ?_
          refine mE_aldn 13 rfl rfl rfl rfl ?_
          refine mE_gf 16 rfl rfl (gT _) rfl rfl ?_
          refine mE_ildn 17 rfl rfl rfl rfl ?_
          refine mE_ila 18 rfl (gS _) hi0 hx rfl ?_
          refine mE_ist 20 [(4, .int x), (3, .int i), (2, .int c), (0, .ref 13), (1, .ref t)] rfl rfl rfl rfl ?_
          exact mE_le body (by omega)
  refine mR_ix [(0, .ref 13), (1, .ref t)] rfl rfl rfl ?_
  refine mE_ico 1 0 rfl rfl rfl ?_
  refine mE_istn 2 [(2, .int 0), (0, .ref 13), (1, .ref t)] rfl rfl rfl rfl ?_
  refine mE_ico 3 0 rfl rfl rfl ?_
  refine mE_istn 4 [(3, .int 0), (2, .int 0), (0, .ref 13), (1, .ref t)] rfl rfl rfl rfl ?_
  have k := key P.length P [] vs 0 0 rfl (by rw [e0]; omega) (by rw [Nat.sub_self]; rfl) (by rw [e0]; rfl) (by rw [e0]; decide) (by rw [lv]; rfl) hrun _ (Or.inl rfl)
  exact mE_le k (Nat.le_trans (show 60 * P.length + 60 ≤ 3660 by omega) (Nat.le_of_ble_eq_true rfl))
