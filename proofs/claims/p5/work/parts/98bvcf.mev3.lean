/-! notOf and oneOf of the reference, and anyOf to every depth -/
theorem nots_par (v : Int32) : ∀ K : Nat, eNots (K + 1) v = if (v = 0 ↔ K % 2 = 0) then 1 else 0 := by
  intro K
  induction K with
  | zero =>
    show eNeg v = _
    unfold eNeg
    by_cases h : v = 0
    · rw [if_pos h, if_pos ⟨fun _ => rfl, fun _ => h⟩]
    · rw [if_neg h, if_neg (fun q => h (q.mpr rfl))]
  | succ K ih =>
    show eNeg (eNots (K + 1) v) = _
    rw [ih]
    unfold eNeg
    by_cases h : v = 0 ↔ K % 2 = 0
    · rw [if_pos h, if_neg (show ¬ (1 : Int32) = 0 by decide), if_neg]
      intro q
      rcases Nat.mod_two_eq_zero_or_one K with e | e
      · have := q.mp (h.mpr e); omega
      · have := h.mp (q.mpr (by omega)); omega
    · rw [if_neg h, if_pos rfl, if_pos]
      constructor
      · intro hv
        rcases Nat.mod_two_eq_zero_or_one K with e | e
        · exact absurd ⟨fun _ => e, fun _ => hv⟩ h
        · omega
      · intro hk
        rcases Nat.mod_two_eq_zero_or_one K with e | e
        · omega
        · by_cases hv : v = 0
          · exact hv
          · exact absurd ⟨fun q => absurd q hv, fun q => by omega⟩ h
set_option maxRecDepth 100000 in
theorem rem2L : (List.range 401).all (fun m => ((Int32.ofNat m - Int32.ofNat m / 2 * 2) == 0) == (m % 2 == 0)) = true := by rfl
theorem rem2 {m : Nat} (h : m ≤ 400) : (Int32.ofNat m - Int32.ofNat m / 2 * 2 = 0) ↔ m % 2 = 0 := by
  have := eq_of_beq (List.all_eq_true.mp rem2L m (List.mem_range.mpr (by omega)))
  rw [Bool.eq_iff_iff, beq_iff_eq, beq_iff_eq] at this
  exact this
theorem eBang_suf : ∀ s : List Int32, (eBang s).2 <:+ s ∧ (eBang s).1 + (eBang s).2.length = s.length := by
  intro s
  induction s with
  | nil => exact ⟨List.suffix_refl _, rfl⟩
  | cons b r ih =>
    unfold eBang
    split
    · refine ⟨ih.1.trans ⟨[b], rfl⟩, ?_⟩
      show (eBang r).1 + 1 + (eBang r).2.length = r.length + 1
      omega
    · exact ⟨List.suffix_refl _, by simp⟩
set_option maxRecDepth 10000 in
set_option maxHeartbeats 2000000 in
theorem MV_not {l : List mC} {s0 : Nat} {fs : List Value} {T : List Int32} {E d : Nat} (hc : mvC l fs T E) {one : List Int32 → PV} {fone : List Int32 → Prop} (h1 : MV l s0 fs T E (d + 1) 115 (eCmp one) (fCmp one fone)) : MV l s0 fs T E (d + 2) 114 (eNot one) (fNot one fone) := by
  have last : ∀ (m : Nat) (t : List Int32), m + t.length ≤ 400 → Sx T E t → fCmp one fone t → mE (mcall (d + 1)) none 3 (mgd 69 mtX11_notOf) 40 (27, [(1, .int (Int32.ofNat m)), (0, .ref 47)], [], hX l s0 fs E t) (fun r h' => mretok (some .int) r = true ∧ r = some (.int (eNots m (eCmp one t).1)) ∧ h' = hX l s0 fs E (eCmp one t).2) := by
    intro m t hm hst hft
    refine mE_aldn 28 rfl rfl rfl rfl ?_
    refine x_sub hc hst h1 hft rfl rfl ?_
    generalize (eCmp one t).1 = v
    refine mE_istn 32 [(2, .int v), (1, .int (Int32.ofNat m)), (0, .ref 47)] rfl rfl rfl rfl ?_
    refine mE_ildn 33 rfl rfl rfl rfl ?_
    have am := ofN (n := m) (by omega)
    cases m with
    | zero =>
      refine mE_if_ne_f 36 rfl (fun q => q rfl) rfl ?_
      refine mE_ildn 37 rfl rfl rfl rfl ?_
      refine mE_goto 68 rfl rfl ?_
      exact mE_iret rfl ⟨rfl, rfl, rfl⟩
    | succ K =>
      refine mE_if_ne_t 40 rfl (fun q => by have q := congrArg Int32.toInt q; rw [am] at q; have e0 : (0 : Int32).toInt = 0 := rfl; rw [e0] at q; omega) rfl ?_
      refine mE_ildn 41 rfl rfl rfl rfl ?_
      have hpar := rem2 (m := K + 1) (by omega)
      have fin : ∀ (x y : Int32), (x = if v = 0 then 0 else 1) → (y = if (K + 1) % 2 = 0 then 1 else 0) → mE (mcall (d + 1)) none 3 (mgd 69 mtX11_notOf) 20 (60, [(2, .int v), (1, .int (Int32.ofNat (K + 1))), (0, .ref 47)], [.int y, .int x], hX l s0 fs E (eCmp one t).2) (fun r h' => mretok (some .int) r = true ∧ r = some (.int (eNots (K + 1) v)) ∧ h' = hX l s0 fs E (eCmp one t).2) := by
        intro x y hx hy
        by_cases hq : v = 0 ↔ K % 2 = 0
        · have hxy : x = y := by
            rw [hx, hy]
            by_cases hv : v = 0
            · rw [if_pos hv, if_neg (by have := hq.mp hv; omega)]
            · rw [if_neg hv, if_pos (by
                rcases Nat.mod_two_eq_zero_or_one K with e | e
                · exact absurd (hq.mpr e) hv
                · omega)]
          refine mE_ic_ne_f 63 rfl (fun q => q hxy) rfl ?_
          refine mE_ico 64 1 rfl rfl rfl ?_
          refine mE_goto 68 rfl rfl ?_
          exact mE_iret rfl ⟨rfl, by rw [nots_par, if_pos hq], rfl⟩
        · have hxy : ¬ x = y := by
            rw [hx, hy]
            by_cases hv : v = 0
            · rw [if_pos hv, if_pos (by
                rcases Nat.mod_two_eq_zero_or_one K with e | e
                · exact absurd ⟨fun _ => e, fun _ => hv⟩ hq
                · omega)]
              decide
            · rw [if_neg hv, if_neg (by
                intro e
                exact hq ⟨fun q => absurd q hv, fun q => by omega⟩)]
              decide
          refine mE_ic_ne_t 67 rfl hxy rfl ?_
          refine mE_ico 68 0 rfl rfl rfl ?_
          exact mE_iret rfl ⟨rfl, by rw [nots_par, if_neg hq], rfl⟩
      have mid : ∀ (x : Int32), (x = if v = 0 then 0 else 1) → mE (mcall (d + 1)) none 3 (mgd 69 mtX11_notOf) 28 (49, [(2, .int v), (1, .int (Int32.ofNat (K + 1))), (0, .ref 47)], [.int x], hX l s0 fs E (eCmp one t).2) (fun r h' => mretok (some .int) r = true ∧ r = some (.int (eNots (K + 1) v)) ∧ h' = hX l s0 fs E (eCmp one t).2) := by
        intro x hx
        refine mE_ildn 50 rfl rfl rfl rfl ?_
        refine mE_ico 51 2 rfl rfl rfl ?_
        refine mE_irem 52 _ rfl (by decide) rfl rfl ?_
        by_cases hp : (K + 1) % 2 = 0
        · refine mE_if_ne_f 55 rfl (fun q => q (hpar.mpr hp)) rfl ?_
          refine mE_ico 56 1 rfl rfl rfl ?_
          refine mE_goto 60 rfl rfl ?_
          exact mE_le (fin x 1 hx (by rw [if_pos hp])) (Nat.le_of_ble_eq_true rfl)
        · refine mE_if_ne_t 59 rfl (fun q => hp (hpar.mp q)) rfl ?_
          refine mE_ico 60 0 rfl rfl rfl ?_
          exact mE_le (fin x 0 hx (by rw [if_neg hp])) (Nat.le_of_ble_eq_true rfl)
      by_cases hv : v = 0
      · refine mE_if_eq_t 48 rfl hv rfl ?_
        refine mE_ico 49 0 rfl rfl rfl ?_
        exact mE_le (mid 0 (by rw [if_pos hv])) (Nat.le_of_ble_eq_true rfl)
      · refine mE_if_eq_f 44 rfl hv rfl ?_
        refine mE_ico 45 1 rfl rfl rfl ?_
        refine mE_goto 49 rfl rfl ?_
        exact mE_le (mid 1 (by rw [if_neg hv])) (Nat.le_of_ble_eq_true rfl)
  have key : ∀ (n m : Nat) (t : List Int32), t.length ≤ n → m + t.length ≤ 400 → Sx T E t → fCmp one fone (eBang t).2 → mE (mcall (d + 1)) none 3 (mgd 69 mtX11_notOf) (15 * n + 60) (2, [(1, .int (Int32.ofNat m)), (0, .ref 47)], [], hX l s0 fs E t) (fun r h' => mretok (some .int) r = true ∧ r = some (.int (eNots (m + (eBang t).1) (eCmp one (eBang t).2).1)) ∧ h' = hX l s0 fs E (eCmp one (eBang t).2).2) := by
    intro n
    induction n with
    | zero =>
      intro m t ht hm hst hft
      cases t with
      | cons => simp at ht
      | nil =>
        refine mE_aldn 3 rfl rfl rfl rfl ?_
        refine x_look hc hst rfl rfl ?_
        refine mE_bip 8 33 rfl rfl rfl ?_
        refine mE_ic_ne_t 27 rfl (by decide) rfl ?_
        exact mE_le (last m [] hm hst hft) (Nat.le_of_ble_eq_true rfl)
    | succ n ih =>
      intro m t ht hm hst hft
      rw [show 15 * (n + 1) + 60 = (15 * n + 60) + 15 by omega]
      cases t with
      | nil =>
        refine mE_aldn 3 rfl rfl rfl rfl ?_
        refine x_look hc hst rfl rfl ?_
        refine mE_bip 8 33 rfl rfl rfl ?_
        refine mE_ic_ne_t 27 rfl (by decide) rfl ?_
        exact mE_le (last m [] hm hst hft) (by omega)
      | cons c r =>
        by_cases hb : c = 33
        · subst hb
          have heq : eBang (33 :: r) = ((eBang r).1 + 1, (eBang r).2) := rfl
          rw [heq] at hft ⊢
          refine mE_aldn 3 rfl rfl rfl rfl ?_
          refine x_look hc hst rfl rfl ?_
          refine mE_bip 8 33 rfl rfl rfl ?_
          refine mE_ic_ne_f 11 rfl (fun q => q rfl) rfl ?_
          refine x_at hc hst rfl rfl rfl rfl rfl rfl rfl ?_
          simp at ht hm
          have e1 : (Int32.ofInt 1).toInt = 1 := by decide
          have am := ofN (n := m) (by omega)
          have hadd : Int32.ofNat m + Int32.ofInt 1 = Int32.ofNat (m + 1) := Int32.toInt_inj.mp (by rw [add_id (by omega) (by omega), am, e1, ofN (by omega)]; omega)
          refine mE_iinc 24 (Int32.ofNat (m + 1)) [(1, .int (Int32.ofNat (m + 1))), (0, .ref 47)] rfl rfl rfl hadd rfl rfl ?_
          refine mE_goto 2 rfl rfl ?_
          have := ih (m + 1) r (by omega) (by omega) (Sx_suf hst ⟨[33], rfl⟩) hft
          rw [show m + ((eBang r).1 + 1) = m + 1 + (eBang r).1 by omega]
          exact mE_le this (by omega)
        · have heq : eBang (c :: r) = (0, c :: r) := by
            show (if c = 33 then _ else _) = _
            rw [if_neg hb]
          rw [heq] at hft ⊢
          refine mE_aldn 3 rfl rfl rfl rfl ?_
          refine x_look hc hst rfl rfl ?_
          refine mE_bip 8 33 rfl rfl rfl ?_
          refine mE_ic_ne_t 27 rfl hb rfl ?_
          exact mE_le (last m (c :: r) hm hst hft) (by omega)
  intro s hs hf
  refine mR_ix [(0, .ref 47)] rfl rfl rfl ?_
  refine mE_ico 1 0 rfl rfl rfl ?_
  refine mE_istn 2 [(1, .int 0), (0, .ref 47)] rfl rfl rfl rfl ?_
  have h360 : s.length ≤ 360 := Nat.le_trans hs.1 hc.1.2.2
  have k := key s.length 0 s (Nat.le_refl _) (by omega) hs hf.1
  rw [Nat.zero_add] at k
  exact mE_le k (Nat.le_trans (show 15 * s.length + 60 ≤ 5460 by omega) (Nat.le_of_ble_eq_true rfl))
