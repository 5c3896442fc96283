/-! the other parts of the reference's reckoning -/
theorem beq_false {a b : Int32} (h : ¬ a = b) : (a == b) = false := by
  cases hb : (a == b) with
  | true => exact absurd (eq_of_beq hb) h
  | false => rfl
set_option maxRecDepth 10000 in
set_option maxHeartbeats 2000000 in
theorem MV_any {l : List mC} {s0 : Nat} {fs : List Value} {T : List Int32} {E d : Nat} (hc : mvC l fs T E) {one : List Int32 → PV} {fone : List Int32 → Prop} (h1 : MV l s0 fs T E (d + 1) 113 (eAll one) (fAll one fone)) : MV l s0 fs T E (d + 2) 112 (eAny one) (fAny one fone) := by
  intro s hs hf
  obtain ⟨⟨f1, f2⟩, f3⟩ := hf
  have key : ∀ (n : Nat) (v : Int32) (t : List Int32) (lv : mL), t.length ≤ n → Sx T E t → fLoop opO (eAll one) (fAll one fone) n t → (lv = [(1, .int v), (0, .ref 47)] ∨ ∃ x2 : Int32, lv = [(1, .int v), (2, .int x2), (0, .ref 47)]) → mE (mcall (d + 1)) none 3 (mgd 48 mtX11_anyOf) (40 * n + 40) (5, lv, [], hX l s0 fs E t) (fun r h' => mretok (some .int) r = true ∧ r = some (.int (eLoop opO eApp (eAll one) n v t).1) ∧ h' = hX l s0 fs E (eLoop opO eApp (eAll one) n v t).2) := by
    intro n
    induction n with
    | zero =>
      intro v t lv ht hst hft hlv
      cases t with
      | cons => simp at ht
      | nil =>
        rcases hlv with rfl | ⟨x2, rfl⟩
        all_goals
          refine mE_aldn 6 rfl rfl rfl rfl ?_
          refine x_look hc hst rfl rfl ?_
          refine mE_bip 11 124 rfl rfl rfl ?_
          refine mE_ic_ne_t 46 rfl (by decide) rfl ?_
          refine mE_ildn 47 rfl rfl rfl rfl ?_
          exact mE_iret rfl ⟨rfl, rfl, rfl⟩
    | succ n ih =>
      intro v t lv ht hst hft hlv
      rw [show 40 * (n + 1) + 40 = (40 * n + 40) + 40 by omega]
      cases t with
      | nil =>
        rcases hlv with rfl | ⟨x2, rfl⟩
        all_goals
          refine mE_aldn 6 rfl rfl rfl rfl ?_
          refine x_look hc hst rfl rfl ?_
          refine mE_bip 11 124 rfl rfl rfl ?_
          refine mE_ic_ne_t 46 rfl (by decide) rfl ?_
          refine mE_ildn 47 rfl rfl rfl rfl ?_
          exact mE_iret rfl ⟨rfl, rfl, rfl⟩
      | cons c r =>
        have heq : eLoop opO eApp (eAll one) (n + 1) v (c :: r) = if opO c = true then eLoop opO eApp (eAll one) n (eApp c v (eAll one r).1) (eAll one r).2 else (v, c :: r) := rfl
        by_cases hb : opO c = true
        · obtain ⟨g1, g2, g3⟩ := hft hb
          have hsr : Sx T E r := Sx_suf hst ⟨[c], rfl⟩
          have hl2 := g2.length_le
          rw [heq, if_pos hb]
          have nx : ∀ (w : Int32) (lv' : mL), w = eApp c v (eAll one r).1 → (∃ x2 : Int32, lv' = [(1, .int w), (2, .int x2), (0, .ref 47)]) → mE (mcall (d + 1)) none 3 (mgd 48 mtX11_anyOf) (40 * n + 40) (5, lv', [], hX l s0 fs E (eAll one r).2) (fun r' h' => mretok (some .int) r' = true ∧ r' = some (.int (eLoop opO eApp (eAll one) n (eApp c v (eAll one r).1) (eAll one r).2).1) ∧ h' = hX l s0 fs E (eLoop opO eApp (eAll one) n (eApp c v (eAll one r).1) (eAll one r).2).2) := fun w lv' hw hlv' => by
            rw [← hw]
            exact ih w _ lv' (by simp at ht; omega) (Sx_suf hsr g2) g3 (Or.inr hlv')
          generalize hz : (eAll one r).1 = z at nx ⊢
          have hcb : c = 124 := eq_of_beq hb
          subst hcb
          rcases hlv with rfl | ⟨x2, rfl⟩
          all_goals
            refine mE_aldn 6 rfl rfl rfl rfl ?_
            refine x_look hc hst rfl rfl ?_
            refine mE_bip 11 124 rfl rfl rfl ?_
            refine mE_ic_ne_f 14 rfl (fun q => q rfl) rfl ?_
            refine x_at hc hst rfl rfl rfl rfl rfl rfl rfl ?_
            refine mE_aldn 25 rfl rfl rfl rfl ?_
            refine x_sub hc hsr h1 g1 rfl rfl ?_
            rw [hz]
            refine mE_istn 29 [(2, .int z), (1, .int v), (0, .ref 47)] rfl rfl rfl rfl ?_
            refine mE_ildn 30 rfl rfl rfl rfl ?_
            by_cases hv : v = 0
            · refine mE_if_ne_f 33 rfl (fun q => q hv) rfl ?_
              refine mE_ildn 34 rfl rfl rfl rfl ?_
              by_cases hw : z = 0
              · refine mE_if_eq_t 41 rfl hw rfl ?_
                refine mE_ico 42 0 rfl rfl rfl ?_
                refine mE_istn 43 [(1, .int 0), (2, .int z), (0, .ref 47)] rfl rfl rfl rfl ?_
                refine mE_goto 5 rfl rfl ?_
                exact mE_le (nx 0 _ (by rw [hv, hw]; rfl) ⟨z, rfl⟩) (by omega)
              · refine mE_if_eq_f 37 rfl hw rfl ?_
                refine mE_ico 38 1 rfl rfl rfl ?_
                refine mE_goto 42 rfl rfl ?_
                refine mE_istn 43 [(1, .int 1), (2, .int z), (0, .ref 47)] rfl rfl rfl rfl ?_
                refine mE_goto 5 rfl rfl ?_
                exact mE_le (nx 1 _ (by show (1 : Int32) = bool (!(v == 0) || !(z == 0)); rw [beq_false hw, Bool.not_false, Bool.or_true]; rfl) ⟨z, rfl⟩) (by omega)
            · refine mE_if_ne_t 37 rfl hv rfl ?_
              refine mE_ico 38 1 rfl rfl rfl ?_
              refine mE_goto 42 rfl rfl ?_
              refine mE_istn 43 [(1, .int 1), (2, .int z), (0, .ref 47)] rfl rfl rfl rfl ?_
              refine mE_goto 5 rfl rfl ?_
              exact mE_le (nx 1 _ (by show (1 : Int32) = bool (!(v == 0) || !(z == 0)); rw [beq_false hv, Bool.not_false, Bool.true_or]; rfl) ⟨z, rfl⟩) (by omega)
        · rw [heq, if_neg hb]
          rcases hlv with rfl | ⟨x2, rfl⟩
          all_goals
            refine mE_aldn 6 rfl rfl rfl rfl ?_
            refine x_look hc hst rfl rfl ?_
            refine mE_bip 11 124 rfl rfl rfl ?_
            refine mE_ic_ne_t 46 rfl (fun q => hb (by have q : c = 124 := q; rw [q]; rfl)) rfl ?_
            refine mE_ildn 47 rfl rfl rfl rfl ?_
            exact mE_iret rfl ⟨rfl, rfl, rfl⟩
  refine mR_ix [(0, .ref 47)] rfl rfl rfl ?_
  refine mE_aldn 1 rfl rfl rfl rfl ?_
  refine x_sub hc hs h1 f1 rfl rfl ?_
  refine mE_istn 5 [(1, .int (eAll one s).1), (0, .ref 47)] rfl rfl rfl rfl ?_
  have h360 : (eAll one s).2.length ≤ 360 := Nat.le_trans f2.length_le (Nat.le_trans hs.1 hc.1.2.2)
  exact mE_le (key _ _ _ _ (Nat.le_refl _) (Sx_suf hs f2) f3 (Or.inl rfl)) (Nat.le_trans (show 40 * (eAll one s).2.length + 40 ≤ 14440 by omega) (Nat.le_of_ble_eq_true rfl))
set_option maxRecDepth 10000 in
set_option maxHeartbeats 2000000 in
theorem MV_all {l : List mC} {s0 : Nat} {fs : List Value} {T : List Int32} {E d : Nat} (hc : mvC l fs T E) {one : List Int32 → PV} {fone : List Int32 → Prop} (h1 : MV l s0 fs T E (d + 1) 114 (eNot one) (fNot one fone)) : MV l s0 fs T E (d + 2) 113 (eAll one) (fAll one fone) := by
  intro s hs hf
  obtain ⟨⟨f1, f2⟩, f3⟩ := hf
  have key : ∀ (n : Nat) (v : Int32) (t : List Int32) (lv : mL), t.length ≤ n → Sx T E t → fLoop opA (eNot one) (fNot one fone) n t → (lv = [(1, .int v), (0, .ref 47)] ∨ ∃ x2 : Int32, lv = [(1, .int v), (2, .int x2), (0, .ref 47)]) → mE (mcall (d + 1)) none 3 (mgd 48 mtX11_allOf) (40 * n + 40) (5, lv, [], hX l s0 fs E t) (fun r h' => mretok (some .int) r = true ∧ r = some (.int (eLoop opA eApp (eNot one) n v t).1) ∧ h' = hX l s0 fs E (eLoop opA eApp (eNot one) n v t).2) := by
    intro n
    induction n with
    | zero =>
      intro v t lv ht hst hft hlv
      cases t with
      | cons => simp at ht
      | nil =>
        rcases hlv with rfl | ⟨x2, rfl⟩
        all_goals
          refine mE_aldn 6 rfl rfl rfl rfl ?_
          refine x_look hc hst rfl rfl ?_
          refine mE_bip 11 38 rfl rfl rfl ?_
          refine mE_ic_ne_t 46 rfl (by decide) rfl ?_
          refine mE_ildn 47 rfl rfl rfl rfl ?_
          exact mE_iret rfl ⟨rfl, rfl, rfl⟩
    | succ n ih =>
      intro v t lv ht hst hft hlv
      rw [show 40 * (n + 1) + 40 = (40 * n + 40) + 40 by omega]
      cases t with
      | nil =>
        rcases hlv with rfl | ⟨x2, rfl⟩
        all_goals
          refine mE_aldn 6 rfl rfl rfl rfl ?_
          refine x_look hc hst rfl rfl ?_
          refine mE_bip 11 38 rfl rfl rfl ?_
          refine mE_ic_ne_t 46 rfl (by decide) rfl ?_
          refine mE_ildn 47 rfl rfl rfl rfl ?_
          exact mE_iret rfl ⟨rfl, rfl, rfl⟩
      | cons c r =>
        have heq : eLoop opA eApp (eNot one) (n + 1) v (c :: r) = if opA c = true then eLoop opA eApp (eNot one) n (eApp c v (eNot one r).1) (eNot one r).2 else (v, c :: r) := rfl
        by_cases hb : opA c = true
        · obtain ⟨g1, g2, g3⟩ := hft hb
          have hsr : Sx T E r := Sx_suf hst ⟨[c], rfl⟩
          have hl2 := g2.length_le
          rw [heq, if_pos hb]
          have nx : ∀ (w : Int32) (lv' : mL), w = eApp c v (eNot one r).1 → (∃ x2 : Int32, lv' = [(1, .int w), (2, .int x2), (0, .ref 47)]) → mE (mcall (d + 1)) none 3 (mgd 48 mtX11_allOf) (40 * n + 40) (5, lv', [], hX l s0 fs E (eNot one r).2) (fun r' h' => mretok (some .int) r' = true ∧ r' = some (.int (eLoop opA eApp (eNot one) n (eApp c v (eNot one r).1) (eNot one r).2).1) ∧ h' = hX l s0 fs E (eLoop opA eApp (eNot one) n (eApp c v (eNot one r).1) (eNot one r).2).2) := fun w lv' hw hlv' => by
            rw [← hw]
            exact ih w _ lv' (by simp at ht; omega) (Sx_suf hsr g2) g3 (Or.inr hlv')
          generalize hz : (eNot one r).1 = z at nx ⊢
          have hcb : c = 38 := eq_of_beq hb
          subst hcb
          rcases hlv with rfl | ⟨x2, rfl⟩
          all_goals
            refine mE_aldn 6 rfl rfl rfl rfl ?_
            refine x_look hc hst rfl rfl ?_
            refine mE_bip 11 38 rfl rfl rfl ?_
            refine mE_ic_ne_f 14 rfl (fun q => q rfl) rfl ?_
            refine x_at hc hst rfl rfl rfl rfl rfl rfl rfl ?_
            refine mE_aldn 25 rfl rfl rfl rfl ?_
            refine x_sub hc hsr h1 g1 rfl rfl ?_
            rw [hz]
            refine mE_istn 29 [(2, .int z), (1, .int v), (0, .ref 47)] rfl rfl rfl rfl ?_
            refine mE_ildn 30 rfl rfl rfl rfl ?_
            by_cases hv : v = 0
            · refine mE_if_eq_t 41 rfl hv rfl ?_
              refine mE_ico 42 0 rfl rfl rfl ?_
              refine mE_istn 43 [(1, .int 0), (2, .int z), (0, .ref 47)] rfl rfl rfl rfl ?_
              refine mE_goto 5 rfl rfl ?_
              exact mE_le (nx 0 _ (by rw [hv]; rfl) ⟨z, rfl⟩) (by omega)
            · refine mE_if_eq_f 33 rfl hv rfl ?_
              refine mE_ildn 34 rfl rfl rfl rfl ?_
              by_cases hw : z = 0
              · refine mE_if_eq_t 41 rfl hw rfl ?_
                refine mE_ico 42 0 rfl rfl rfl ?_
                refine mE_istn 43 [(1, .int 0), (2, .int z), (0, .ref 47)] rfl rfl rfl rfl ?_
                refine mE_goto 5 rfl rfl ?_
                exact mE_le (nx 0 _ (by show (0 : Int32) = bool (!(v == 0) && !(z == 0)); rw [hw]; show (0 : Int32) = bool (!(v == 0) && false); rw [Bool.and_false]; rfl) ⟨z, rfl⟩) (by omega)
              · refine mE_if_eq_f 37 rfl hw rfl ?_
                refine mE_ico 38 1 rfl rfl rfl ?_
                refine mE_goto 42 rfl rfl ?_
                refine mE_istn 43 [(1, .int 1), (2, .int z), (0, .ref 47)] rfl rfl rfl rfl ?_
                refine mE_goto 5 rfl rfl ?_
                exact mE_le (nx 1 _ (by show (1 : Int32) = bool (!(v == 0) && !(z == 0)); rw [beq_false hv, beq_false hw]; rfl) ⟨z, rfl⟩) (by omega)
        · rw [heq, if_neg hb]
          rcases hlv with rfl | ⟨x2, rfl⟩
          all_goals
            refine mE_aldn 6 rfl rfl rfl rfl ?_
            refine x_look hc hst rfl rfl ?_
            refine mE_bip 11 38 rfl rfl rfl ?_
            refine mE_ic_ne_t 46 rfl (fun q => hb (by have q : c = 38 := q; rw [q]; rfl)) rfl ?_
            refine mE_ildn 47 rfl rfl rfl rfl ?_
            exact mE_iret rfl ⟨rfl, rfl, rfl⟩
  refine mR_ix [(0, .ref 47)] rfl rfl rfl ?_
  refine mE_aldn 1 rfl rfl rfl rfl ?_
  refine x_sub hc hs h1 f1 rfl rfl ?_
  refine mE_istn 5 [(1, .int (eNot one s).1), (0, .ref 47)] rfl rfl rfl rfl ?_
  have h360 : (eNot one s).2.length ≤ 360 := Nat.le_trans f2.length_le (Nat.le_trans hs.1 hc.1.2.2)
  exact mE_le (key _ _ _ _ (Nat.le_refl _) (Sx_suf hs f2) f3 (Or.inl rfl)) (Nat.le_trans (show 40 * (eNot one s).2.length + 40 ≤ 14440 by omega) (Nat.le_of_ble_eq_true rfl))
theorem sub_neg1 (v z : Int32) : v + -1 * z = v - z := by
  apply Int32.toBitVec_inj.mp
  simp only [Int32.toBitVec_add, Int32.toBitVec_mul, Int32.toBitVec_sub]
  have h1 : (-1 : Int32).toBitVec = -1#32 := rfl
  rw [h1, BitVec.sub_eq_add_neg]
  congr 1
  rw [BitVec.neg_mul]
  simp
set_option maxRecDepth 10000 in
set_option maxHeartbeats 2000000 in
theorem MV_sum {l : List mC} {s0 : Nat} {fs : List Value} {T : List Int32} {E d : Nat} (hc : mvC l fs T E) {one : List Int32 → PV} {fone : List Int32 → Prop} (h1 : MV l s0 fs T E (d + 1) 117 (eProd one) (fProd one fone)) : MV l s0 fs T E (d + 2) 116 (eSum one) (fSum one fone) := by
  intro s hs hf
  obtain ⟨⟨f1, f2⟩, f3⟩ := hf
  have key : ∀ (n : Nat) (v : Int32) (t : List Int32) (lv : mL), t.length ≤ n → Sx T E t → fLoop opS (eProd one) (fProd one fone) n t → (lv = [(1, .int v), (0, .ref 47)] ∨ ∃ x2 : Int32, lv = [(1, .int v), (2, .int x2), (0, .ref 47)]) → mE (mcall (d + 1)) none 3 (mgd 62 mtX11_sumOf) (40 * n + 40) (5, lv, [], hX l s0 fs E t) (fun r h' => mretok (some .int) r = true ∧ r = some (.int (eLoop opS eApp (eProd one) n v t).1) ∧ h' = hX l s0 fs E (eLoop opS eApp (eProd one) n v t).2) := by
    intro n
    induction n with
    | zero =>
      intro v t lv ht hst hft hlv
      cases t with
      | cons => simp at ht
      | nil =>
        rcases hlv with rfl | ⟨x2, rfl⟩
        all_goals
          refine mE_aldn 6 rfl rfl rfl rfl ?_
          refine x_look hc hst rfl rfl ?_
          refine mE_bip 11 43 rfl rfl rfl ?_
          refine mE_ic_eq_f 14 rfl (by decide) rfl ?_
          refine mE_aldn 15 rfl rfl rfl rfl ?_
          refine x_look hc hst rfl rfl ?_
          refine mE_bip 20 45 rfl rfl rfl ?_
          refine mE_ic_ne_t 60 rfl (by decide) rfl ?_
          refine mE_ildn 61 rfl rfl rfl rfl ?_
          exact mE_iret rfl ⟨rfl, rfl, rfl⟩
    | succ n ih =>
      intro v t lv ht hst hft hlv
      rw [show 40 * (n + 1) + 40 = (40 * n + 40) + 40 by omega]
      cases t with
      | nil =>
        rcases hlv with rfl | ⟨x2, rfl⟩
        all_goals
          refine mE_aldn 6 rfl rfl rfl rfl ?_
          refine x_look hc hst rfl rfl ?_
          refine mE_bip 11 43 rfl rfl rfl ?_
          refine mE_ic_eq_f 14 rfl (by decide) rfl ?_
          refine mE_aldn 15 rfl rfl rfl rfl ?_
          refine x_look hc hst rfl rfl ?_
          refine mE_bip 20 45 rfl rfl rfl ?_
          refine mE_ic_ne_t 60 rfl (by decide) rfl ?_
          refine mE_ildn 61 rfl rfl rfl rfl ?_
          exact mE_iret rfl ⟨rfl, rfl, rfl⟩
      | cons c r =>
        have heq : eLoop opS eApp (eProd one) (n + 1) v (c :: r) = if opS c = true then eLoop opS eApp (eProd one) n (eApp c v (eProd one r).1) (eProd one r).2 else (v, c :: r) := rfl
        by_cases hb : opS c = true
        · obtain ⟨g1, g2, g3⟩ := hft hb
          have hsr : Sx T E r := Sx_suf hst ⟨[c], rfl⟩
          have hl2 := g2.length_le
          rw [heq, if_pos hb]
          have nx : ∀ (w : Int32) (lv' : mL), w = eApp c v (eProd one r).1 → (∃ x2 : Int32, lv' = [(1, .int w), (2, .int x2), (0, .ref 47)]) → mE (mcall (d + 1)) none 3 (mgd 62 mtX11_sumOf) (40 * n + 40) (5, lv', [], hX l s0 fs E (eProd one r).2) (fun r' h' => mretok (some .int) r' = true ∧ r' = some (.int (eLoop opS eApp (eProd one) n (eApp c v (eProd one r).1) (eProd one r).2).1) ∧ h' = hX l s0 fs E (eLoop opS eApp (eProd one) n (eApp c v (eProd one r).1) (eProd one r).2).2) := fun w lv' hw hlv' => by
            rw [← hw]
            exact ih w _ lv' (by simp at ht; omega) (Sx_suf hsr g2) g3 (Or.inr hlv')
          generalize hz : (eProd one r).1 = z at nx ⊢
          have hcb : c = 43 ∨ c = 45 := by
            rcases Bool.or_eq_true_iff.mp hb with q | q
            · exact Or.inl (eq_of_beq q)
            · exact Or.inr (eq_of_beq q)
          rcases hcb with hcb | hcb
          · subst hcb
            rcases hlv with rfl | ⟨x2, rfl⟩
            all_goals
              refine mE_aldn 6 rfl rfl rfl rfl ?_
              refine x_look hc hst rfl rfl ?_
              refine mE_bip 11 43 rfl rfl rfl ?_
              refine mE_ic_eq_t 23 rfl rfl rfl ?_
              refine mE_aldn 24 rfl rfl rfl rfl ?_
              refine x_look hc hst rfl rfl ?_
              refine mE_bip 29 43 rfl rfl rfl ?_
              refine mE_ic_ne_f 32 rfl (fun q => q rfl) rfl ?_
              refine mE_ico 33 1 rfl rfl rfl ?_
              refine mE_goto 37 rfl rfl ?_
              refine mE_istn 38 [(2, .int 1), (1, .int v), (0, .ref 47)] rfl rfl rfl rfl ?_
              refine x_at hc hst rfl rfl rfl rfl rfl rfl rfl ?_
              refine mE_ildn 49 rfl rfl rfl rfl ?_
              refine mE_ildn 50 rfl rfl rfl rfl ?_
              refine mE_aldn 51 rfl rfl rfl rfl ?_
              refine x_sub hc hsr h1 g1 rfl rfl ?_
              rw [hz]
              refine mE_imul 55 z rfl (Int32.one_mul z) rfl ?_
              refine mE_iadd 56 (v + z) rfl rfl rfl ?_
              refine mE_istn 57 [(1, .int (v + z)), (2, .int 1), (0, .ref 47)] rfl rfl rfl rfl ?_
              refine mE_goto 5 rfl rfl ?_
              exact mE_le (nx (v + z) _ rfl ⟨1, rfl⟩) (by omega)
          · subst hcb
            rcases hlv with rfl | ⟨x2, rfl⟩
            all_goals
              refine mE_aldn 6 rfl rfl rfl rfl ?_
              refine x_look hc hst rfl rfl ?_
              refine mE_bip 11 43 rfl rfl rfl ?_
              refine mE_ic_eq_f 14 rfl (show ¬ (45 : Int32) = 43 by decide) rfl ?_
              refine mE_aldn 15 rfl rfl rfl rfl ?_
              refine x_look hc hst rfl rfl ?_
              refine mE_bip 20 45 rfl rfl rfl ?_
              refine mE_ic_ne_f 23 rfl (fun q => q rfl) rfl ?_
              refine mE_aldn 24 rfl rfl rfl rfl ?_
              refine x_look hc hst rfl rfl ?_
              refine mE_bip 29 43 rfl rfl rfl ?_
              refine mE_ic_ne_t 36 rfl (show ¬ (45 : Int32) = 43 by decide) rfl ?_
              refine mE_ico 37 (-1) rfl rfl rfl ?_
              refine mE_istn 38 [(2, .int (-1)), (1, .int v), (0, .ref 47)] rfl rfl rfl rfl ?_
              refine x_at hc hst rfl rfl rfl rfl rfl rfl rfl ?_
              refine mE_ildn 49 rfl rfl rfl rfl ?_
              refine mE_ildn 50 rfl rfl rfl rfl ?_
              refine mE_aldn 51 rfl rfl rfl rfl ?_
              refine x_sub hc hsr h1 g1 rfl rfl ?_
              rw [hz]
              refine mE_imul 55 (-1 * z) rfl rfl rfl ?_
              refine mE_iadd 56 (v - z) rfl (sub_neg1 v z) rfl ?_
              refine mE_istn 57 [(1, .int (v - z)), (2, .int (-1)), (0, .ref 47)] rfl rfl rfl rfl ?_
              refine mE_goto 5 rfl rfl ?_
              exact mE_le (nx (v - z) _ rfl ⟨-1, rfl⟩) (by omega)
        · rw [heq, if_neg hb]
          rcases hlv with rfl | ⟨x2, rfl⟩
          all_goals
            refine mE_aldn 6 rfl rfl rfl rfl ?_
            refine x_look hc hst rfl rfl ?_
            refine mE_bip 11 43 rfl rfl rfl ?_
            refine mE_ic_eq_f 14 rfl (fun q => hb (by have q : c = 43 := q; rw [q]; rfl)) rfl ?_
            refine mE_aldn 15 rfl rfl rfl rfl ?_
            refine x_look hc hst rfl rfl ?_
            refine mE_bip 20 45 rfl rfl rfl ?_
            refine mE_ic_ne_t 60 rfl (fun q => hb (by have q : c = 45 := q; rw [q]; rfl)) rfl ?_
            refine mE_ildn 61 rfl rfl rfl rfl ?_
            exact mE_iret rfl ⟨rfl, rfl, rfl⟩
  refine mR_ix [(0, .ref 47)] rfl rfl rfl ?_
  refine mE_aldn 1 rfl rfl rfl rfl ?_
  refine x_sub hc hs h1 f1 rfl rfl ?_
  refine mE_istn 5 [(1, .int (eProd one s).1), (0, .ref 47)] rfl rfl rfl rfl ?_
  have h360 : (eProd one s).2.length ≤ 360 := Nat.le_trans f2.length_le (Nat.le_trans hs.1 hc.1.2.2)
  exact mE_le (key _ _ _ _ (Nat.le_refl _) (Sx_suf hs f2) f3 (Or.inl rfl)) (Nat.le_trans (show 40 * (eProd one s).2.length + 40 ≤ 14440 by omega) (Nat.le_of_ble_eq_true rfl))
set_option maxRecDepth 10000 in
set_option maxHeartbeats 2000000 in
theorem MV_cmp {l : List mC} {s0 : Nat} {fs : List Value} {T : List Int32} {E d : Nat} (hc : mvC l fs T E) {one : List Int32 → PV} {fone : List Int32 → Prop} (h1 : MV l s0 fs T E (d + 1) 116 (eSum one) (fSum one fone)) : MV l s0 fs T E (d + 2) 115 (eCmp one) (fCmp one fone) := by
  intro s hs hf
  obtain ⟨⟨f1, f2⟩, f3⟩ := hf
  have hs1 := Sx_suf hs f2
  refine mR_ix [(0, .ref 47)] rfl rfl rfl ?_
  refine mE_aldn 1 rfl rfl rfl rfl ?_
  refine x_sub hc hs h1 f1 rfl rfl ?_
  refine mE_istn 5 [(1, .int (eSum one s).1), (0, .ref 47)] rfl rfl rfl rfl ?_
  refine mE_aldn 6 rfl rfl rfl rfl ?_
  refine x_look hc hs1 rfl rfl ?_
  have hcmp : eCmp one s = match (eSum one s).2 with
    | [] => ((eSum one s).1, [])
    | b :: r => if isRl b then (eApp b (eSum one s).1 (eSum one r).1, (eSum one r).2) else ((eSum one s).1, b :: r) := rfl
  rw [hcmp]
  generalize (eSum one s).1 = v
  revert hs1 f3
  generalize (eSum one s).2 = t
  intro f3 hs1
  refine mE_istn 10 [(2, .int (lk t)), (1, .int v), (0, .ref 47)] rfl rfl rfl rfl ?_
  refine mE_aldn 11 rfl rfl rfl rfl ?_
  refine mE_ildn 12 rfl rfl rfl rfl ?_
  refine mE_cv [.int (lk t)] [] rfl rfl rfl rfl (hX_at hc t) rfl ?_
  obtain ⟨r1, hA, kA, rfl, eA⟩ := r_Mrel d 47 (lk t) (hX l s0 fs E t)
  subst eA
  refine ⟨_, _, kA, ?_⟩
  cases t with
  | nil =>
    refine mE_if_ne_f 18 rfl (fun q => q (by rw [if_neg (show ¬ isRl (lk []) from by decide)])) rfl ?_
    refine mE_ildn 19 rfl rfl rfl rfl ?_
    exact mE_iret rfl ⟨rfl, rfl, rfl⟩
  | cons c r =>
    by_cases hb : isRl c
    · obtain ⟨g1, g2⟩ := f3 c r rfl hb
      have hsr : Sx T E r := Sx_suf hs1 ⟨[c], rfl⟩
      refine mE_if_ne_t 20 rfl (fun q => by rw [if_pos (show isRl (lk (c :: r)) from hb)] at q; exact absurd q (by decide)) rfl ?_
      refine x_at hc hs1 rfl rfl rfl rfl rfl rfl rfl ?_
      refine mE_aldn 31 rfl rfl rfl rfl ?_
      refine x_sub hc hsr h1 g1 rfl rfl ?_
      dsimp only
      rw [if_pos hb]
      generalize (eSum one r).1 = w
      refine mE_istn 35 [(3, .int w), (2, .int c), (1, .int v), (0, .ref 47)] rfl rfl rfl rfl ?_
      have T1 : ∀ k : Int32, k = 1 → eApp c v w = k → mE (mcall (d + 1)) none 4 (mgd 74 mtX11_compareOf) 10 (68, [(3, .int w), (2, .int c), (1, .int v), (0, .ref 47)], [], hX l s0 fs E (eSum one r).2) (fun r' h' => mretok (some .int) r' = true ∧ r' = some (.int (eApp c v w)) ∧ h' = hX l s0 fs E (eSum one r).2) := fun k hk he => by
        subst hk
        refine mE_ico 69 1 rfl rfl rfl ?_
        refine mE_goto 73 rfl rfl ?_
        exact mE_iret rfl ⟨rfl, by rw [he], rfl⟩
      have T0 : ∀ k : Int32, k = 0 → eApp c v w = k → mE (mcall (d + 1)) none 4 (mgd 74 mtX11_compareOf) 10 (72, [(3, .int w), (2, .int c), (1, .int v), (0, .ref 47)], [], hX l s0 fs E (eSum one r).2) (fun r' h' => mretok (some .int) r' = true ∧ r' = some (.int (eApp c v w)) ∧ h' = hX l s0 fs E (eSum one r).2) := fun k hk he => by
        subst hk
        refine mE_ico 73 0 rfl rfl rfl ?_
        exact mE_iret rfl ⟨rfl, by rw [he], rfl⟩
      have hfu : ∀ N : Nat, 10 ≤ 10 + N := fun N => by omega
      refine mE_ildn 36 rfl rfl rfl rfl ?_
      refine mE_bip 38 60 rfl rfl rfl ?_
      rcases hb with hb | hb | hb
      · subst hb
        refine mE_ic_ne_f 41 rfl (fun q => q rfl) rfl ?_
        refine mE_ildn 42 rfl rfl rfl rfl ?_
        refine mE_ildn 43 rfl rfl rfl rfl ?_
        by_cases hq : v < w
        · refine mE_ic_ge_f 46 rfl (Int32.not_le.mpr hq) rfl ?_
          refine mE_goto 68 rfl rfl ?_
          exact mE_le (T1 1 rfl (by show bool (decide (v < w)) = 1; rw [decide_eq_true hq]; rfl)) (Nat.le_of_ble_eq_true rfl)
        · refine mE_ic_ge_t 72 rfl (Int32.not_lt.mp hq) rfl ?_
          exact mE_le (T0 0 rfl (by show bool (decide (v < w)) = 0; rw [decide_eq_false hq]; rfl)) (Nat.le_of_ble_eq_true rfl)
      · subst hb
        refine mE_ic_ne_t 49 rfl (by decide) rfl ?_
        refine mE_ildn 50 rfl rfl rfl rfl ?_
        refine mE_bip 52 61 rfl rfl rfl ?_
        refine mE_ic_ne_f 55 rfl (fun q => q rfl) rfl ?_
        refine mE_ildn 56 rfl rfl rfl rfl ?_
        refine mE_ildn 57 rfl rfl rfl rfl ?_
        by_cases hq : v = w
        · refine mE_ic_ne_f 60 rfl (fun q => q hq) rfl ?_
          refine mE_goto 68 rfl rfl ?_
          exact mE_le (T1 1 rfl (by show bool (v == w) = 1; rw [hq, beq_self_eq_true]; rfl)) (Nat.le_of_ble_eq_true rfl)
        · refine mE_ic_ne_t 72 rfl hq rfl ?_
          exact mE_le (T0 0 rfl (by show bool (v == w) = 0; rw [beq_false hq]; rfl)) (Nat.le_of_ble_eq_true rfl)
      · subst hb
        refine mE_ic_ne_t 49 rfl (by decide) rfl ?_
        refine mE_ildn 50 rfl rfl rfl rfl ?_
        refine mE_bip 52 61 rfl rfl rfl ?_
        refine mE_ic_ne_t 63 rfl (by decide) rfl ?_
        refine mE_ildn 64 rfl rfl rfl rfl ?_
        refine mE_ildn 65 rfl rfl rfl rfl ?_
        by_cases hq : w < v
        · refine mE_ic_le_f 68 rfl (Int32.not_le.mpr hq) rfl ?_
          exact mE_le (T1 1 rfl (by show bool (decide (w < v)) = 1; rw [decide_eq_true hq]; rfl)) (Nat.le_of_ble_eq_true rfl)
        · refine mE_ic_le_t 72 rfl (Int32.not_lt.mp hq) rfl ?_
          exact mE_le (T0 0 rfl (by show bool (decide (w < v)) = 0; rw [decide_eq_false hq]; rfl)) (Nat.le_of_ble_eq_true rfl)
    · refine mE_if_ne_f 18 rfl (fun q => q (by rw [if_neg (show ¬ isRl (lk (c :: r)) from hb)])) rfl ?_
      refine mE_ildn 19 rfl rfl rfl rfl ?_
      dsimp only
      rw [if_neg hb]
      exact mE_iret rfl ⟨rfl, rfl, rfl⟩
