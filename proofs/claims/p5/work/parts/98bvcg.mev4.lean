set_option maxRecDepth 10000 in
set_option maxHeartbeats 2000000 in
theorem MV_one {l : List mC} {s0 : Nat} {fs : List Value} {T : List Int32} {E d : Nat} (hc : mvC l fs T E) {ν : Int32 → Int32} (hn : ∀ (b : Int32) (s : List Int32), mR (d + 1) 119 [.ref 47, .int b] (hX l s0 fs E s) (fun r h' => r = some (.int (ν b)) ∧ h' = hX l s0 fs E s)) {any : List Int32 → PV} {fany : List Int32 → Prop} (ha : MV l s0 fs T E (d + 1) 112 any fany) : MV l s0 fs T E (d + 2) 118 (eOne ν any) (fOne any fany) := by
  have key : ∀ (n : Nat) (v c0 : Int32) (t : List Int32), t.length ≤ n → Sx T E t → mE (mcall (d + 1)) none 3 (mgd 107 mtX11_oneOf) (40 * n + 40) (61, [(2, .int v), (1, .int c0), (0, .ref 47)], [], hX l s0 fs E t) (fun r h' => mretok (some .int) r = true ∧ r = some (.int (eDig v t).1) ∧ h' = hX l s0 fs E (eDig v t).2) := by
    intro n
    induction n with
    | zero =>
      intro v c0 t ht hst
      cases t with
      | cons => simp at ht
      | nil =>
        refine mE_aldn 62 rfl rfl rfl rfl ?_
        refine x_look hc hst rfl rfl ?_
        refine mE_bip 67 48 rfl rfl rfl ?_
        refine mE_ic_lt_t 105 rfl (by decide) rfl ?_
        refine mE_ildn 106 rfl rfl rfl rfl ?_
        exact mE_iret rfl ⟨rfl, rfl, rfl⟩
    | succ n ih =>
      intro v c0 t ht hst
      rw [show 40 * (n + 1) + 40 = (40 * n + 40) + 40 by omega]
      cases t with
      | nil =>
        refine mE_aldn 62 rfl rfl rfl rfl ?_
        refine x_look hc hst rfl rfl ?_
        refine mE_bip 67 48 rfl rfl rfl ?_
        refine mE_ic_lt_t 105 rfl (by decide) rfl ?_
        refine mE_ildn 106 rfl rfl rfl rfl ?_
        exact mE_iret rfl ⟨rfl, rfl, rfl⟩
      | cons c r =>
        have heq : eDig v (c :: r) = if isDg c then eDig (10 * v + c - 48) r else (v, c :: r) := rfl
        rw [heq]
        refine mE_aldn 62 rfl rfl rfl rfl ?_
        refine x_look hc hst rfl rfl ?_
        refine mE_bip 67 48 rfl rfl rfl ?_
        by_cases h1 : c < 48
        · refine mE_ic_lt_t 105 rfl h1 rfl ?_
          refine mE_ildn 106 rfl rfl rfl rfl ?_
          rw [if_neg (show ¬ isDg c from fun q => absurd h1 (Int32.not_lt.mpr (Int32.le_iff_toInt_le.mpr q.1)))]
          exact mE_iret rfl ⟨rfl, rfl, rfl⟩
        · refine mE_ic_lt_f 70 rfl h1 rfl ?_
          refine mE_aldn 71 rfl rfl rfl rfl ?_
          refine x_look hc hst rfl rfl ?_
          refine mE_bip 76 57 rfl rfl rfl ?_
          by_cases h2 : 57 < c
          · refine mE_ic_gt_t 105 rfl h2 rfl ?_
            refine mE_ildn 106 rfl rfl rfl rfl ?_
            rw [if_neg (show ¬ isDg c from fun q => absurd h2 (Int32.not_lt.mpr (Int32.le_iff_toInt_le.mpr q.2)))]
            exact mE_iret rfl ⟨rfl, rfl, rfl⟩
          · refine mE_ic_gt_f 79 rfl h2 rfl ?_
            rw [if_pos (show isDg c from ⟨Int32.le_iff_toInt_le.mp (Int32.not_lt.mp h1), Int32.le_iff_toInt_le.mp (Int32.not_lt.mp h2)⟩)]
            refine mE_bip 81 10 rfl rfl rfl ?_
            refine mE_ildn 82 rfl rfl rfl rfl ?_
            refine mE_imul 83 (10 * v) rfl rfl rfl ?_
            refine mE_aldn 84 rfl rfl rfl rfl ?_
            refine x_look hc hst rfl rfl ?_
            refine mE_iadd 88 (10 * v + c) rfl rfl rfl ?_
            refine mE_bip 90 48 rfl rfl rfl ?_
            refine mE_isub 91 (10 * v + c - 48) rfl rfl rfl ?_
            refine mE_istn 92 [(2, .int (10 * v + c - 48)), (1, .int c0), (0, .ref 47)] rfl rfl rfl rfl ?_
            refine x_at hc hst rfl rfl rfl rfl rfl rfl rfl ?_
            refine mE_goto 61 rfl rfl ?_
            exact mE_le (ih (10 * v + c - 48) c0 r (by simp at ht; omega) (Sx_suf hst ⟨[c], rfl⟩)) (by omega)
  intro s hs hf
  cases s with
  | nil => exact hf.elim
  | cons c r =>
    have hsr : Sx T E r := Sx_suf hs ⟨[c], rfl⟩
    have h360 : r.length ≤ 360 := Nat.le_trans hsr.1 hc.1.2.2
    have heq : eOne ν any (c :: r) = if c = 40 then ((any r).1, (any r).2.tail) else if isDg c then eDig (c - 48) r else (ν c, r) := rfl
    rw [heq]
    refine mR_ix [(0, .ref 47)] rfl rfl rfl ?_
    refine mE_aldn 1 rfl rfl rfl rfl ?_
    refine x_look hc hs rfl rfl ?_
    refine mE_istn 5 [(1, .int c), (0, .ref 47)] rfl rfl rfl rfl ?_
    refine x_at hc hs rfl rfl rfl rfl rfl rfl rfl ?_
    refine mE_ildn 16 rfl rfl rfl rfl ?_
    refine mE_bip 18 40 rfl rfl rfl ?_
    by_cases h40 : c = 40
    · obtain ⟨f1, f2, f3⟩ := hf h40
      rw [if_pos h40]
      refine mE_ic_ne_f 21 rfl (fun q => q h40) rfl ?_
      refine mE_aldn 22 rfl rfl rfl rfl ?_
      refine x_sub hc hsr ha f1 rfl rfl ?_
      have hs2 := Sx_suf hsr f3
      revert f2 hs2
      generalize (any r).2 = t
      generalize (any r).1 = v
      intro f2 hs2
      refine mE_istn 26 [(2, .int v), (1, .int c), (0, .ref 47)] rfl rfl rfl rfl ?_
      cases t with
      | nil => exact absurd rfl f2
      | cons c' t =>
        refine x_at hc hs2 rfl rfl rfl rfl rfl rfl rfl ?_
        refine mE_ildn 37 rfl rfl rfl rfl ?_
        exact mE_iret rfl ⟨rfl, rfl, rfl⟩
    · rw [if_neg h40]
      refine mE_ic_ne_t 38 rfl h40 rfl ?_
      have nm : ¬ isDg c → mE (mcall (d + 1)) none 3 (mgd 107 mtX11_oneOf) 20 (50, [(1, .int c), (0, .ref 47)], [], hX l s0 fs E r) (fun r' h' => mretok (some .int) r' = true ∧ r' = some (.int (if isDg c then eDig (c - 48) r else (ν c, r)).1) ∧ h' = hX l s0 fs E (if isDg c then eDig (c - 48) r else (ν c, r)).2) := by
        intro hd
        rw [if_neg hd]
        refine mE_aldn 51 rfl rfl rfl rfl ?_
        refine mE_ildn 52 rfl rfl rfl rfl ?_
        refine mE_cv [.int c] [] rfl rfl rfl rfl (hX_at hc r) rfl ?_
        obtain ⟨r1, hA, kA, rfl, rfl⟩ := hn c r
        refine ⟨_, _, kA, ?_⟩
        exact mE_iret rfl ⟨rfl, rfl, rfl⟩
      refine mE_ildn 39 rfl rfl rfl rfl ?_
      refine mE_bip 41 48 rfl rfl rfl ?_
      by_cases h1 : c < 48
      · refine mE_ic_lt_t 50 rfl h1 rfl ?_
        exact mE_le (nm (fun q => absurd h1 (Int32.not_lt.mpr (Int32.le_iff_toInt_le.mpr q.1)))) (Nat.le_of_ble_eq_true rfl)
      · refine mE_ic_lt_f 44 rfl h1 rfl ?_
        refine mE_ildn 45 rfl rfl rfl rfl ?_
        refine mE_bip 47 57 rfl rfl rfl ?_
        by_cases h2 : c ≤ 57
        · refine mE_ic_le_t 56 rfl h2 rfl ?_
          rw [if_pos (show isDg c from ⟨Int32.le_iff_toInt_le.mp (Int32.not_lt.mp h1), Int32.le_iff_toInt_le.mp h2⟩)]
          refine mE_ildn 57 rfl rfl rfl rfl ?_
          refine mE_bip 59 48 rfl rfl rfl ?_
          refine mE_isub 60 (c - 48) rfl rfl rfl ?_
          refine mE_istn 61 [(2, .int (c - 48)), (1, .int c), (0, .ref 47)] rfl rfl rfl rfl ?_
          exact mE_le (key _ _ _ _ (Nat.le_refl _) hsr) (Nat.le_trans (show 40 * r.length + 40 ≤ 14440 by omega) (Nat.le_of_ble_eq_true rfl))
        · refine mE_ic_le_f 50 rfl h2 rfl ?_
          exact mE_le (nm (fun q => h2 (Int32.le_iff_toInt_le.mpr q.2))) (Nat.le_of_ble_eq_true rfl)
/-- anyOf k parentheses deep -/
theorem MV_at {l : List mC} {s0 : Nat} {fs : List Value} {T : List Int32} {E d : Nat} (hc : mvC l fs T E) {ν : Int32 → Int32} (hn : ∀ (b : Int32) (s : List Int32), mR (d + 1) 119 [.ref 47, .int b] (hX l s0 fs E s) (fun r h' => r = some (.int (ν b)) ∧ h' = hX l s0 fs E s)) : ∀ k, MV l s0 fs T E (d + 7 * k + 1) 112 (eAt ν k) (fAt ν k) := by
  intro k
  induction k with
  | zero => intro s hs hf; exact hf.elim
  | succ k ih =>
    rw [show d + 7 * (k + 1) + 1 = d + 7 * k + 6 + 2 by omega]
    exact MV_any hc (MV_all (d := d + 7 * k + 5) hc (MV_not (d := d + 7 * k + 4) hc (MV_cmp (d := d + 7 * k + 3) hc (MV_sum (d := d + 7 * k + 2) hc (MV_prod (d := d + 7 * k + 1) hc (MV_one (d := d + 7 * k) hc (fun b s => mR_le (hn b s) (by omega)) ih))))))
