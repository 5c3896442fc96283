/-! nameOf and stripsOf of the reference, without a strip -/
def cntS (OW : List Int32) (S : Nat) (u : Int32) : Nat := (OW.take S).count u
theorem cntS_s {OW : List Int32} {i : Nat} {x u : Int32} (h : OW[i]? = some x) : cntS OW (i + 1) u = cntS OW i u + if x = u then 1 else 0 := by
  unfold cntS
  rw [List.take_add_one, h, List.count_append]
  show _ + List.count u [x] = _
  rw [List.count_singleton]
  by_cases e : x = u
  · rw [if_pos e, e, beq_self_eq_true]
    rfl
  · rw [if_neg e, beq_false e]
    rfl
theorem cntS_le {OW : List Int32} {i : Nat} {u : Int32} : cntS OW i u ≤ i := Nat.le_trans List.count_le_length (by rw [List.length_take]; omega)
set_option maxRecDepth 10000 in
set_option maxHeartbeats 1000000 in
theorem r_stripsOf {d : Nat} {h : mS} {fs : List Value} {u Sn : Int32} {OW : List Int32} {S : Nat} (e47 : h.1[47]? = some (.inr (11, fs))) (f21 : fs[21]? = some (.int Sn)) (f12 : fs[12]? = some (.ref 58)) (e58 : h.1[58]? = some (.inl (0, .inl OW))) (hS : Sn.toInt = S) (hl : S ≤ OW.length) (h60 : S ≤ 60) : mR (d + 1) 143 [.ref 47, .int u] h (fun r h' => r = some (.int (Int32.ofNat (cntS OW S u))) ∧ h' = h) := by
  have e1 : (1 : Int32).toInt = 1 := by decide
  have key : ∀ (n i : Nat) (lv : mL), i + n = S → (lv = [(3, .int (Int32.ofNat i)), (2, .int (Int32.ofNat (cntS OW i u))), (0, .ref 47), (1, .int u)]) → mE (mcall d) none 4 (mgd 38 mtX11_stripsOf) (20 * n + 20) (4, lv, [], h) (fun r h' => mretok (some .int) r = true ∧ r = some (.int (Int32.ofNat (cntS OW S u))) ∧ h' = h) := by
    intro n
    induction n with
    | zero =>
      intro i lv hi hlv
      subst hlv
      refine mE_ildn 5 rfl rfl rfl rfl ?_
      refine mE_aldn 6 rfl rfl rfl rfl ?_
      refine mE_gf 9 rfl rfl e47 f21 rfl ?_
      refine mE_ic_ge_t 36 rfl (Int32.le_iff_toInt_le.mpr (by rw [hS, ofN (by omega)]; omega)) rfl ?_
      refine mE_ildn 37 rfl rfl rfl rfl ?_
      have : i = S := by omega
      subst this
      exact mE_iret rfl ⟨rfl, rfl, rfl⟩
    | succ n ih =>
      intro i lv hi hlv
      subst hlv
      rw [show 20 * (n + 1) + 20 = (20 * n + 20) + 20 by omega]
      have ai := ofN (n := i) (by omega)
      have hc := cntS_le (OW := OW) (i := i) (u := u)
      have ac := ofN (n := cntS OW i u) (by omega)
      have hx : OW[i]? = some OW[i] := List.getElem?_eq_getElem (by omega)
      refine mE_ildn 5 rfl rfl rfl rfl ?_
      refine mE_aldn 6 rfl rfl rfl rfl ?_
      refine mE_gf 9 rfl rfl e47 f21 rfl ?_
      refine mE_ic_ge_f 12 rfl (fun q => by have := Int32.le_iff_toInt_le.mp q; omega) rfl ?_
      refine mE_ildn 13 rfl rfl rfl rfl ?_
      refine mE_aldn 14 rfl rfl rfl rfl ?_
      refine mE_gf 17 rfl rfl e47 f12 rfl ?_
      refine mE_ildn 18 rfl rfl rfl rfl ?_
      refine mE_ila 19 rfl e58 (nn_of ai) (by rw [nc_of ai]; exact hx) rfl ?_
      refine mE_ildn 20 rfl rfl rfl rfl ?_
      have hii : Int32.ofNat i + Int32.ofInt 1 = Int32.ofNat (i + 1) := Int32.toInt_inj.mp (by rw [add_id (by rw [ai]; show _ ≤ (i : Int) + 1; omega) (by rw [ai]; show (i : Int) + 1 ≤ _; omega), ai, ofN (by omega)]; rfl)
      by_cases hq : OW[i] = u
      · have hcs : Int32.ofNat (cntS OW i u) + 1 = Int32.ofNat (cntS OW (i + 1) u) := by
          rw [cntS_s hx, if_pos hq]
          exact Int32.toInt_inj.mp (by rw [add_id (by omega) (by omega), ac, e1, ofN (by omega)]; rfl)
        refine mE_ic_ne_f 23 rfl (fun q => q hq) rfl ?_
        refine mE_ico 24 1 rfl rfl rfl ?_
        refine mE_goto 28 rfl rfl ?_
        refine mE_iadd 29 _ rfl hcs rfl ?_
        refine mE_istn 30 [(2, .int (Int32.ofNat (cntS OW (i + 1) u))), (3, .int (Int32.ofNat i)), (0, .ref 47), (1, .int u)] rfl rfl rfl rfl ?_
        refine mE_iinc 33 _ [(3, .int (Int32.ofNat (i + 1))), (2, .int (Int32.ofNat (cntS OW (i + 1) u))), (0, .ref 47), (1, .int u)] rfl rfl rfl hii rfl rfl ?_
        refine mE_goto 4 rfl rfl ?_
        exact mE_le (ih (i + 1) _ (by omega) rfl) (by omega)
      · have hcs : Int32.ofNat (cntS OW i u) + 0 = Int32.ofNat (cntS OW (i + 1) u) := by
          rw [cntS_s hx, if_neg hq]
          exact Int32.add_zero _
        refine mE_ic_ne_t 27 rfl hq rfl ?_
        refine mE_ico 28 0 rfl rfl rfl ?_
        refine mE_iadd 29 _ rfl hcs rfl ?_
        refine mE_istn 30 [(2, .int (Int32.ofNat (cntS OW (i + 1) u))), (3, .int (Int32.ofNat i)), (0, .ref 47), (1, .int u)] rfl rfl rfl rfl ?_
        refine mE_iinc 33 _ [(3, .int (Int32.ofNat (i + 1))), (2, .int (Int32.ofNat (cntS OW (i + 1) u))), (0, .ref 47), (1, .int u)] rfl rfl rfl hii rfl rfl ?_
        refine mE_goto 4 rfl rfl ?_
        exact mE_le (ih (i + 1) _ (by omega) rfl) (by omega)
  refine mR_ix [(0, .ref 47), (1, .int u)] rfl rfl rfl ?_
  refine mE_ico 1 0 rfl rfl rfl ?_
  refine mE_istn 2 [(2, .int 0), (0, .ref 47), (1, .int u)] rfl rfl rfl rfl ?_
  refine mE_ico 3 0 rfl rfl rfl ?_
  refine mE_istn 4 [(3, .int 0), (2, .int 0), (0, .ref 47), (1, .int u)] rfl rfl rfl rfl ?_
  exact mE_le (key S 0 _ (by omega) rfl) (Nat.le_trans (show 20 * S + 20 ≤ 1220 by omega) (Nat.le_of_ble_eq_true rfl))
/-- what the reference's names stand for -/
def nuM (w b n u c : Int32) : Int32 := if c = 119 then w - w / 20 * 20 else if c = 121 then w / 20 else if c = 102 ∨ c = 115 ∨ c = 99 ∨ c = 103 ∨ c = 100 then 0 else if c = 98 then b else if c = 110 then n else u
/-- the names of both sides -/
theorem nu_eq (w b n u c : Int32) (h : ¬ midx c < 0) : nuC (nmL w b n u) (midx c) = nuM w b n u c := by
  unfold midx at h ⊢
  by_cases q1 : c = 119
  · subst q1; rfl
  rw [if_neg q1] at h ⊢
  by_cases q2 : c = 121
  · subst q2; rfl
  rw [if_neg q2] at h ⊢
  by_cases q3 : c = 102
  · subst q3; rfl
  rw [if_neg q3] at h ⊢
  by_cases q4 : c = 115
  · subst q4; rfl
  rw [if_neg q4] at h ⊢
  by_cases q5 : c = 99
  · subst q5; rfl
  rw [if_neg q5] at h ⊢
  by_cases q6 : c = 103
  · subst q6; rfl
  rw [if_neg q6] at h ⊢
  by_cases q7 : c = 100
  · subst q7; rfl
  rw [if_neg q7] at h ⊢
  by_cases q8 : c = 98
  · subst q8; rfl
  rw [if_neg q8] at h ⊢
  by_cases q9 : c = 110
  · subst q9; rfl
  rw [if_neg q9] at h ⊢
  by_cases q10 : c = 104
  · subst q10; rfl
  rw [if_neg q10] at h
  exact absurd (show (-1 : Int32) < 0 by decide) h
/-- what nameOf finds without a strip -/
def nmC (l : List mC) (fs : List Value) (w b u Sn : Int32) (BL OW : List Int32) (S : Nat) : Prop := (fs[32]? = some (.int (-1)) ∧ fs[31]? = some (.int u) ∧ fs[0]? = some (.int w)) ∧ (fs[4]? = some (.ref 51) ∧ l[51]? = some (.inl (0, .inl BL)) ∧ ¬ u < 0 ∧ BL[u.toNatClampNeg]? = some b) ∧ (fs[21]? = some (.int Sn) ∧ fs[12]? = some (.ref 58) ∧ l[58]? = some (.inl (0, .inl OW))) ∧ Sn.toInt = S ∧ S ≤ OW.length ∧ S ≤ 60
set_option maxRecDepth 10000 in
set_option maxHeartbeats 4000000 in
theorem r_nameN {d : Nat} {h : mS} {fs : List Value} {w b u Sn : Int32} {BL OW : List Int32} {S : Nat} (e47 : h.1[47]? = some (.inr (11, fs))) (hc : nmC h.1 fs w b u Sn BL OW S) (c : Int32) : mR (d + 2) 119 [.ref 47, .int c] h (fun r h' => r = some (.int (nuM w b (Int32.ofNat (cntS OW S u)) u c)) ∧ h' = h) := by
  obtain ⟨⟨f32, f31, f0⟩, ⟨f4, e51, hu, hb⟩, ⟨f21, f12, e58⟩, hS, hl, h60⟩ := hc
  refine mR_ix [(0, .ref 47), (1, .int c)] rfl rfl rfl ?_
  refine mE_aldn 1 rfl rfl rfl rfl ?_
  refine mE_gf 4 rfl rfl e47 f32 rfl ?_
  refine mE_if_lt_t 11 rfl (by decide) rfl ?_
  refine mE_ico 12 0 rfl rfl rfl ?_
  refine mE_istn 13 [(2, .int 0), (0, .ref 47), (1, .int c)] rfl rfl rfl rfl ?_
  refine mE_ildn 14 rfl rfl rfl rfl ?_
  have dfl : nuM w b (Int32.ofNat (cntS OW S u)) u c = u → mE (mcall (d + 1)) none 3 (mgd 262 mtX11_nameOf) 10 (257, [(2, .int 0), (0, .ref 47), (1, .int c)], [], h) (fun r h' => mretok (some .int) r = true ∧ r = some (.int (nuM w b (Int32.ofNat (cntS OW S u)) u c)) ∧ h' = h) := fun e => by
    refine mE_aldn 258 rfl rfl rfl rfl ?_
    refine mE_gf 261 rfl rfl e47 f31 rfl ?_
    exact mE_iret rfl ⟨rfl, by rw [e], rfl⟩
  by_cases hr : c.toInt < 98 ∨ 121 < c.toInt
  · refine mE_tsw0 257 rfl hr (by decide) rfl ?_
    refine mE_le (dfl ?_) (Nat.le_of_ble_eq_true rfl)
    have ne : ∀ k : Int32, ¬ (k.toInt < 98 ∨ 121 < k.toInt) → ¬ c = k := fun k hk e => hk (by rw [← e]; exact hr)
    unfold nuM
    rw [if_neg (ne 119 (by decide)), if_neg (ne 121 (by decide)), if_neg (by
      rintro (q | q | q | q | q)
      · exact ne 102 (by decide) q
      · exact ne 115 (by decide) q
      · exact ne 99 (by decide) q
      · exact ne 103 (by decide) q
      · exact ne 100 (by decide) q), if_neg (ne 98 (by decide)), if_neg (ne 110 (by decide))]
  have hcs : c = 98 ∨ c = 99 ∨ c = 100 ∨ c = 101 ∨ c = 102 ∨ c = 103 ∨ c = 104 ∨ c = 105 ∨ c = 106 ∨ c = 107 ∨ c = 108 ∨ c = 109 ∨ c = 110 ∨ c = 111 ∨ c = 112 ∨ c = 113 ∨ c = 114 ∨ c = 115 ∨ c = 116 ∨ c = 117 ∨ c = 118 ∨ c = 119 ∨ c = 120 ∨ c = 121 := by
    have he : c.toInt = 98 ∨ c.toInt = 99 ∨ c.toInt = 100 ∨ c.toInt = 101 ∨ c.toInt = 102 ∨ c.toInt = 103 ∨ c.toInt = 104 ∨ c.toInt = 105 ∨ c.toInt = 106 ∨ c.toInt = 107 ∨ c.toInt = 108 ∨ c.toInt = 109 ∨ c.toInt = 110 ∨ c.toInt = 111 ∨ c.toInt = 112 ∨ c.toInt = 113 ∨ c.toInt = 114 ∨ c.toInt = 115 ∨ c.toInt = 116 ∨ c.toInt = 117 ∨ c.toInt = 118 ∨ c.toInt = 119 ∨ c.toInt = 120 ∨ c.toInt = 121 := by omega
    rcases he with q | q | q | q | q | q | q | q | q | q | q | q | q | q | q | q | q | q | q | q | q | q | q | q
    · exact Or.inl (Int32.toInt_inj.mp q)
    · exact Or.inr (Or.inl (Int32.toInt_inj.mp q))
    · exact Or.inr (Or.inr (Or.inl (Int32.toInt_inj.mp q)))
    · exact Or.inr (Or.inr (Or.inr (Or.inl (Int32.toInt_inj.mp q))))
    · exact Or.inr (Or.inr (Or.inr (Or.inr (Or.inl (Int32.toInt_inj.mp q)))))
    · exact Or.inr (Or.inr (Or.inr (Or.inr (Or.inr (Or.inl (Int32.toInt_inj.mp q))))))
    · exact Or.inr (Or.inr (Or.inr (Or.inr (Or.inr (Or.inr (Or.inl (Int32.toInt_inj.mp q)))))))
    · exact Or.inr (Or.inr (Or.inr (Or.inr (Or.inr (Or.inr (Or.inr (Or.inl (Int32.toInt_inj.mp q))))))))
    · exact Or.inr (Or.inr (Or.inr (Or.inr (Or.inr (Or.inr (Or.inr (Or.inr (Or.inl (Int32.toInt_inj.mp q)))))))))
    · exact Or.inr (Or.inr (Or.inr (Or.inr (Or.inr (Or.inr (Or.inr (Or.inr (Or.inr (Or.inl (Int32.toInt_inj.mp q))))))))))
    · exact Or.inr (Or.inr (Or.inr (Or.inr (Or.inr (Or.inr (Or.inr (Or.inr (Or.inr (Or.inr (Or.inl (Int32.toInt_inj.mp q)))))))))))
    · exact Or.inr (Or.inr (Or.inr (Or.inr (Or.inr (Or.inr (Or.inr (Or.inr (Or.inr (Or.inr (Or.inr (Or.inl (Int32.toInt_inj.mp q))))))))))))
    · exact Or.inr (Or.inr (Or.inr (Or.inr (Or.inr (Or.inr (Or.inr (Or.inr (Or.inr (Or.inr (Or.inr (Or.inr (Or.inl (Int32.toInt_inj.mp q)))))))))))))
    · exact Or.inr (Or.inr (Or.inr (Or.inr (Or.inr (Or.inr (Or.inr (Or.inr (Or.inr (Or.inr (Or.inr (Or.inr (Or.inr (Or.inl (Int32.toInt_inj.mp q))))))))))))))
    · exact Or.inr (Or.inr (Or.inr (Or.inr (Or.inr (Or.inr (Or.inr (Or.inr (Or.inr (Or.inr (Or.inr (Or.inr (Or.inr (Or.inr (Or.inl (Int32.toInt_inj.mp q)))))))))))))))
    · exact Or.inr (Or.inr (Or.inr (Or.inr (Or.inr (Or.inr (Or.inr (Or.inr (Or.inr (Or.inr (Or.inr (Or.inr (Or.inr (Or.inr (Or.inr (Or.inl (Int32.toInt_inj.mp q))))))))))))))))
    · exact Or.inr (Or.inr (Or.inr (Or.inr (Or.inr (Or.inr (Or.inr (Or.inr (Or.inr (Or.inr (Or.inr (Or.inr (Or.inr (Or.inr (Or.inr (Or.inr (Or.inl (Int32.toInt_inj.mp q)))))))))))))))))
    · exact Or.inr (Or.inr (Or.inr (Or.inr (Or.inr (Or.inr (Or.inr (Or.inr (Or.inr (Or.inr (Or.inr (Or.inr (Or.inr (Or.inr (Or.inr (Or.inr (Or.inr (Or.inl (Int32.toInt_inj.mp q))))))))))))))))))
    · exact Or.inr (Or.inr (Or.inr (Or.inr (Or.inr (Or.inr (Or.inr (Or.inr (Or.inr (Or.inr (Or.inr (Or.inr (Or.inr (Or.inr (Or.inr (Or.inr (Or.inr (Or.inr (Or.inl (Int32.toInt_inj.mp q)))))))))))))))))))
    · exact Or.inr (Or.inr (Or.inr (Or.inr (Or.inr (Or.inr (Or.inr (Or.inr (Or.inr (Or.inr (Or.inr (Or.inr (Or.inr (Or.inr (Or.inr (Or.inr (Or.inr (Or.inr (Or.inr (Or.inl (Int32.toInt_inj.mp q))))))))))))))))))))
    · exact Or.inr (Or.inr (Or.inr (Or.inr (Or.inr (Or.inr (Or.inr (Or.inr (Or.inr (Or.inr (Or.inr (Or.inr (Or.inr (Or.inr (Or.inr (Or.inr (Or.inr (Or.inr (Or.inr (Or.inr (Or.inl (Int32.toInt_inj.mp q)))))))))))))))))))))
    · exact Or.inr (Or.inr (Or.inr (Or.inr (Or.inr (Or.inr (Or.inr (Or.inr (Or.inr (Or.inr (Or.inr (Or.inr (Or.inr (Or.inr (Or.inr (Or.inr (Or.inr (Or.inr (Or.inr (Or.inr (Or.inr (Or.inl (Int32.toInt_inj.mp q))))))))))))))))))))))
    · exact Or.inr (Or.inr (Or.inr (Or.inr (Or.inr (Or.inr (Or.inr (Or.inr (Or.inr (Or.inr (Or.inr (Or.inr (Or.inr (Or.inr (Or.inr (Or.inr (Or.inr (Or.inr (Or.inr (Or.inr (Or.inr (Or.inr (Or.inl (Int32.toInt_inj.mp q)))))))))))))))))))))))
    · exact Or.inr (Or.inr (Or.inr (Or.inr (Or.inr (Or.inr (Or.inr (Or.inr (Or.inr (Or.inr (Or.inr (Or.inr (Or.inr (Or.inr (Or.inr (Or.inr (Or.inr (Or.inr (Or.inr (Or.inr (Or.inr (Or.inr (Or.inr (Int32.toInt_inj.mp q)))))))))))))))))))))))
  rcases hcs with rfl | rfl | rfl | rfl | rfl | rfl | rfl | rfl | rfl | rfl | rfl | rfl | rfl | rfl | rfl | rfl | rfl | rfl | rfl | rfl | rfl | rfl | rfl | rfl
  · refine mE_tsw 238 rfl (by decide) rfl (by decide) rfl ?_
    refine mE_aldn 239 rfl rfl rfl rfl ?_
    refine mE_gf 242 rfl rfl e47 f4 rfl ?_
    refine mE_aldn 243 rfl rfl rfl rfl ?_
    refine mE_gf 246 rfl rfl e47 f31 rfl ?_
    refine mE_ila 247 rfl e51 hu hb rfl ?_
    exact mE_iret rfl ⟨rfl, rfl, rfl⟩
  · refine mE_tsw 180 rfl (by decide) rfl (by decide) rfl ?_
    refine mE_ildn 181 rfl rfl rfl rfl ?_
    refine mE_if_eq_t 200 rfl rfl rfl ?_
    refine mE_ico 201 0 rfl rfl rfl ?_
    exact mE_iret rfl ⟨rfl, rfl, rfl⟩
  · refine mE_tsw 220 rfl (by decide) rfl (by decide) rfl ?_
    refine mE_ildn 221 rfl rfl rfl rfl ?_
    refine mE_if_eq_t 236 rfl rfl rfl ?_
    refine mE_ico 237 0 rfl rfl rfl ?_
    exact mE_iret rfl ⟨rfl, rfl, rfl⟩
  · refine mE_tsw 257 rfl (by decide) rfl (by decide) rfl ?_
    exact mE_le (dfl rfl) (Nat.le_of_ble_eq_true rfl)
  · refine mE_tsw 140 rfl (by decide) rfl (by decide) rfl ?_
    refine mE_ildn 141 rfl rfl rfl rfl ?_
    refine mE_if_eq_t 156 rfl rfl rfl ?_
    refine mE_ico 157 0 rfl rfl rfl ?_
    exact mE_iret rfl ⟨rfl, rfl, rfl⟩
  · refine mE_tsw 202 rfl (by decide) rfl (by decide) rfl ?_
    refine mE_ildn 203 rfl rfl rfl rfl ?_
    refine mE_if_eq_t 218 rfl rfl rfl ?_
    refine mE_ico 219 0 rfl rfl rfl ?_
    exact mE_iret rfl ⟨rfl, rfl, rfl⟩
  · refine mE_tsw 257 rfl (by decide) rfl (by decide) rfl ?_
    exact mE_le (dfl rfl) (Nat.le_of_ble_eq_true rfl)
  · refine mE_tsw 257 rfl (by decide) rfl (by decide) rfl ?_
    exact mE_le (dfl rfl) (Nat.le_of_ble_eq_true rfl)
  · refine mE_tsw 257 rfl (by decide) rfl (by decide) rfl ?_
    exact mE_le (dfl rfl) (Nat.le_of_ble_eq_true rfl)
  · refine mE_tsw 257 rfl (by decide) rfl (by decide) rfl ?_
    exact mE_le (dfl rfl) (Nat.le_of_ble_eq_true rfl)
  · refine mE_tsw 257 rfl (by decide) rfl (by decide) rfl ?_
    exact mE_le (dfl rfl) (Nat.le_of_ble_eq_true rfl)
  · refine mE_tsw 257 rfl (by decide) rfl (by decide) rfl ?_
    exact mE_le (dfl rfl) (Nat.le_of_ble_eq_true rfl)
  · refine mE_tsw 248 rfl (by decide) rfl (by decide) rfl ?_
    refine mE_aldn 249 rfl rfl rfl rfl ?_
    refine mE_aldn 250 rfl rfl rfl rfl ?_
    refine mE_gf 253 rfl rfl e47 f31 rfl ?_
    refine mE_cv [.int u] [] rfl rfl rfl rfl e47 rfl ?_
    obtain ⟨r1, hA, kA, rfl, rfl⟩ := r_stripsOf (d := d) (u := u) e47 f21 f12 e58 hS hl h60
    refine ⟨_, _, kA, ?_⟩
    exact mE_iret rfl ⟨rfl, rfl, rfl⟩
  · refine mE_tsw 257 rfl (by decide) rfl (by decide) rfl ?_
    exact mE_le (dfl rfl) (Nat.le_of_ble_eq_true rfl)
  · refine mE_tsw 257 rfl (by decide) rfl (by decide) rfl ?_
    exact mE_le (dfl rfl) (Nat.le_of_ble_eq_true rfl)
  · refine mE_tsw 257 rfl (by decide) rfl (by decide) rfl ?_
    exact mE_le (dfl rfl) (Nat.le_of_ble_eq_true rfl)
  · refine mE_tsw 257 rfl (by decide) rfl (by decide) rfl ?_
    exact mE_le (dfl rfl) (Nat.le_of_ble_eq_true rfl)
  · refine mE_tsw 158 rfl (by decide) rfl (by decide) rfl ?_
    refine mE_ildn 159 rfl rfl rfl rfl ?_
    refine mE_if_eq_t 178 rfl rfl rfl ?_
    refine mE_ico 179 0 rfl rfl rfl ?_
    exact mE_iret rfl ⟨rfl, rfl, rfl⟩
  · refine mE_tsw 257 rfl (by decide) rfl (by decide) rfl ?_
    exact mE_le (dfl rfl) (Nat.le_of_ble_eq_true rfl)
  · refine mE_tsw 257 rfl (by decide) rfl (by decide) rfl ?_
    exact mE_le (dfl rfl) (Nat.le_of_ble_eq_true rfl)
  · refine mE_tsw 257 rfl (by decide) rfl (by decide) rfl ?_
    exact mE_le (dfl rfl) (Nat.le_of_ble_eq_true rfl)
  · refine mE_tsw 124 rfl (by decide) rfl (by decide) rfl ?_
    refine mE_aldn 125 rfl rfl rfl rfl ?_
    refine mE_gf 128 rfl rfl e47 f0 rfl ?_
    refine mE_bip 130 20 rfl rfl rfl ?_
    refine mE_irem 131 _ rfl (by decide) rfl rfl ?_
    exact mE_iret rfl ⟨rfl, rfl, rfl⟩
  · refine mE_tsw 257 rfl (by decide) rfl (by decide) rfl ?_
    exact mE_le (dfl rfl) (Nat.le_of_ble_eq_true rfl)
  · refine mE_tsw 132 rfl (by decide) rfl (by decide) rfl ?_
    refine mE_aldn 133 rfl rfl rfl rfl ?_
    refine mE_gf 136 rfl rfl e47 f0 rfl ?_
    refine mE_bip 138 20 rfl rfl rfl ?_
    refine mE_idiv 139 _ rfl (by decide) rfl rfl ?_
    exact mE_iret rfl ⟨rfl, rfl, rfl⟩
