/-! one cell in a closer role -/
def anoT (r : Nat) (t : aV) : Bool := !((Nat.beq t.1 3 || Nat.beq t.1 4) && Nat.beq t.2.1.toNat r)
def anoR (r : Nat) (R : aR) : Bool := match R with
  | .inl (_, fts) => fts.all (anoT r)
  | .inr (.inl _) => true
  | .inr (.inr (_, _, r', _)) => !Nat.beq r' r
def anoI (l : List (Option aR)) (r : Nat) : Bool := l.all (fun q => match q with | some R => anoR r R | none => true)
theorem hasT_rn {g : Nat → Int} {ρ : List Nat} {m r r' : Nat} {t : aV} {v : Value} (hm : ρ[m]? = some r) (hn : anoT r t = true) (hv : hasT g ρ t v) : hasT g (ρ.set m r') t v := by
  have key : ∀ k : Nat, Nat.beq t.2.1.toNat r = false → ρ[k]? = some t.2.1.toNat → (ρ.set m r')[k]? = some t.2.1.toNat := by
    intro k h1 h2
    have hne : m ≠ k := fun e => by
      subst e
      rw [hm] at h2
      cases h2
      rw [Nat.beq_refl] at h1
      cases h1
    rw [List.getElem?_set_ne hne]
    exact h2
  unfold hasT at hv ⊢
  unfold anoT at hn
  split at hv
  · exact hv
  · exact hv
  · exact hv
  · rename_i e
    rw [e] at hn
    have hb : Nat.beq t.2.1.toNat r = false := by
      cases hb : Nat.beq t.2.1.toNat r with
      | true => rw [hb] at hn; cases hn
      | false => rfl
    obtain ⟨k, rfl, hk⟩ := hv
    exact ⟨k, rfl, key k hb hk⟩
  · rename_i e
    rw [e] at hn
    have hb : Nat.beq t.2.1.toNat r = false := by
      cases hb : Nat.beq t.2.1.toNat r with
      | true => rw [hb] at hn; cases hn
      | false => rfl
    rcases hv with rfl | ⟨k, rfl, hk⟩
    · exact Or.inl rfl
    · exact Or.inr ⟨k, rfl, key k hb hk⟩
  · exact hv
  · exact hv
  · exact hv
theorem okC_rn {g : Nat → Int} {ρ : List Nat} {m r r' : Nat} {R : aR} {c : mC} (hm : ρ[m]? = some r) (hn : anoR r R = true) (hc : okC g ρ R c) : okC g (ρ.set m r') R c := by
  unfold okC at hc ⊢
  unfold anoR at hn
  split at hc
  · obtain ⟨fs, e1, e2, e3⟩ := hc
    exact ⟨fs, e1, e2, fun j t v h1 h2 => hasT_rn hm (List.all_eq_true.mp hn t (List.mem_of_getElem? h1)) (e3 j t v h1 h2)⟩
  · exact hc
  · rename_i t n rr mode
    obtain ⟨qs, e1, e2, e3⟩ := hc
    refine ⟨qs, e1, e2, fun j q h1 => ?_⟩
    rcases e3 j q h1 with h2 | ⟨k, h2, h3⟩
    · exact Or.inl h2
    · refine Or.inr ⟨k, h2, ?_⟩
      have hne : m ≠ k := fun e => by
        subst e
        rw [hm] at h3
        cases h3
        have hn : (!Nat.beq r r) = true := hn
        rw [Nat.beq_refl] at hn
        cases hn
      rw [List.getElem?_set_ne hne]
      exact h3
theorem uqR_set {ρ : List Nat} {m r r' : Nat} (hgr : grp r' = grp r) (hm : ρ[m]? = some r) (hu : uqR ρ) : uqR (ρ.set m r') := by
  have hl : m < ρ.length := (List.getElem?_eq_some_iff.mp hm).1
  have key : ∀ (k s : Nat), (ρ.set m r')[k]? = some s → ∃ s0, ρ[k]? = some s0 ∧ grp s0 = grp s := by
    intro k s h1
    by_cases he : m = k
    · subst he
      rw [List.getElem?_set_self hl] at h1
      cases h1
      exact ⟨r, hm, hgr.symm⟩
    · rw [List.getElem?_set_ne he] at h1
      exact ⟨s, h1, rfl⟩
  intro k k' s s' h1 h2 h3 h4
  obtain ⟨a, a1, a2⟩ := key k s h1
  obtain ⟨b, b1, b2⟩ := key k' s' h2
  exact hu k k' a b a1 b1 (by rw [a2, b2, h3]) (by rw [a2]; exact h4)
/-- cell m of role r takes role r': no type speaks of r -/
theorem okH_rn {g : Nat → Int} {ρ : List Nat} {h : List mC} {m r r' : Nat} {R' : aR} (hgr : grp r' = grp r) (hn : anoI aRl r = true) (hm : ρ[m]? = some r) (hr : rI0 r' = some R') (hH : okH rI0 g ρ h) (hc : ∀ c, h[m]? = some c → okC g (ρ.set m r') R' c) : okH rI0 g (ρ.set m r') h := by
  have hl : m < ρ.length := (List.getElem?_eq_some_iff.mp hm).1
  refine ⟨by rw [List.length_set]; exact hH.1, fun k s c h1 h2 => ?_, uqR_set hgr hm hH.2.2⟩
  by_cases he : m = k
  · subst he
    rw [List.getElem?_set_self hl] at h1
    cases h1
    exact ⟨R', hr, hc c h2⟩
  · rw [List.getElem?_set_ne he] at h1
    obtain ⟨R, e1, e2⟩ := hH.2.1 k s c h1 h2
    refine ⟨R, e1, okC_rn hm ?_ e2⟩
    have e3 : some R ∈ aRl := by
      unfold rI0 at e1
      split at e1
      · rename_i q hq
        cases e1
        exact List.mem_of_getElem? hq
      · cases e1
    exact List.all_eq_true.mp hn _ e3
theorem no30 : anoI aRl 30 = true := by decide +kernel
/-- an object's role, with a field's type put closer -/
theorem okC_fld {g : Nat → Int} {ρ ρ' : List Nat} {ci : Nat} {fts fts' : List aV} {fs : List Value} (h1 : okC g ρ (.inl (ci, fts)) (.inr (ci, fs))) (hl : fts'.length = fts.length) (hf : ∀ (j : Nat) (t t' : aV) (v : Value), fts[j]? = some t → fts'[j]? = some t' → fs[j]? = some v → hasT g ρ t v → hasT g ρ' t' v) : okC g ρ' (.inl (ci, fts')) (.inr (ci, fs)) := by
  obtain ⟨fs', e1, e2, e3⟩ := h1
  cases e1
  refine ⟨fs, rfl, by rw [hl]; exact e2, fun j t' v a1 a2 => ?_⟩
  have hj : j < fts.length := by rw [← hl]; exact (List.getElem?_eq_some_iff.mp a1).1
  have a3 : fts[j]? = some (fts[j]'hj) := List.getElem?_eq_getElem hj
  exact hf j _ t' v a3 a1 a2 (e3 j _ v a3 a2)
set_option maxRecDepth 10000 in
/-- nameOf, of both kinds of reckoning -/
theorem r_nameOf {d : Nat} (hall : CTall ci_early d) {g : Nat → Int} {ρ : List Nat} {m : Nat} {h : mS} {a e c : Int32} (hg : okG aBl g) (hq : PQ g ρ m h a e) : mR d 119 [.ref m, .int c] h (fun r h' => h' = h ∧ ∃ v : Int32, r = some (.int v)) := by
  obtain ⟨hH, hm, fs, c1, c2, c3⟩ := hq
  obtain ⟨fs', c4, c5, c6⟩ := fld hH hm rM_eq
  rw [c1] at c4
  cases c4
  obtain ⟨v0, c7, s, rfl, s1, s2⟩ := c6 32 (0, -1, 59) rfl
  have s1 : -1 ≤ s.toInt := s1
  have s2 : s.toInt ≤ 59 := s2
  have hl : m < ρ.length := (List.getElem?_eq_some_iff.mp hm).1
  obtain ⟨c0, d1, d2⟩ := hH.at hm rM_eq
  rw [c1] at d1
  cases d1
  have go : ∀ (r' : Nat) (lo hi : Int) (fts' : List aV) (id : Nat), grp r' = grp 30 → rI0 r' = some (.inl (11, fts')) → fts' = rM.set 32 (0, lo, hi) → lo ≤ s.toInt → s.toInt ≤ hi → ctU ci_early id = some (119, [(3, (r' : Int), 0), (0, -2147483648, 2147483647)], [], some ((0, -2147483648, 2147483647), 0, (0, -2147483648, 2147483647)), []) → mR d 119 [.ref m, .int c] h (fun r h' => h' = h ∧ ∃ v : Int32, r = some (.int v)) := by
    intro r' lo hi fts' id hgr hr hf h1 h2 hid
    have hH' : okH rI0 g (ρ.set m r') h.1 := by
      refine okH_rn hgr no30 hm hr hH (fun c hc => ?_)
      rw [c1] at hc
      cases hc
      refine okC_fld d2 (by rw [hf, List.length_set]) (fun j t t' v a1 a2 a3 a4 => ?_)
      rw [hf] at a2
      by_cases hj : 32 = j
      · subst hj
        have : t' = (0, lo, hi) := by
          rw [List.getElem?_set_self (List.getElem?_eq_some_iff.mp a1).1] at a2
          cases a2
          rfl
        subst this
        rw [c7] at a3
        cases a3
        exact ⟨s, rfl, h1, h2⟩
      · rw [List.getElem?_set_ne hj, a1] at a2
        cases a2
        refine hasT_rn hm ?_ a4
        have e9 : (some (.inl (11, rM)) : Option aR) ∈ aRl := by
          have := rM_eq
          unfold rI0 at this
          split at this
          · rename_i q hq
            rw [← this]
            exact List.mem_of_getElem? hq
          · cases this
        have := List.all_eq_true.mp no30 _ e9
        exact List.all_eq_true.mp this t (List.mem_of_getElem? a1)
    have hct := hall id _ hid
    obtain ⟨r, h', k1, k2, k3, k4⟩ := hct g (ρ.set m r') [.ref m, .int c] h hg hH' ⟨⟨m, rfl, by rw [List.getElem?_set_self hl]; rfl⟩, a32_ok c, trivial⟩ (fun q hq => by cases hq)
    refine ⟨r, h', k1, ?_, ?_⟩
    · have e1 : h'.1 = h.1 := by
        apply List.ext_getElem?
        intro i
        by_cases hi : i < (ρ.set m r').length
        · exact k3.1 i _ (List.getElem?_eq_getElem hi) (by intro hh; cases hh)
        · rw [List.getElem?_eq_none (by rw [← k2.1]; omega), List.getElem?_eq_none (by rw [← hH'.1]; omega)]
      exact Prod.ext e1 k3.2.1
    · obtain ⟨v, rfl, ⟨x, rfl, -⟩, -⟩ := k4
      exact ⟨x, rfl⟩
  by_cases hs : s.toInt = -1
  · exact go 61 (-1) (-1) _ ci_nameOfA rfl rfl rfl (by omega) (by omega) rfl
  · exact go 62 0 59 _ ci_nameOfB rfl rfl rfl (by omega) (by omega) rfl
set_option maxRecDepth 10000 in
set_option maxHeartbeats 1000000 in
/-- oneOf: a ( leads to anyOf with a byte less -/
theorem PC_one {d n : Nat} (hall : CTall ci_early (d + 1)) (hC : ∀ k, k < n → PC (d + 1) 112 k) : PC (d + 2) 118 n := by
  refine PC_of (fun g ρ m h a e hg hq h0 h1 he hn => ?_)
  refine mR_ix [(0, .ref m)] rfl rfl rfl ?_
  refine mE_aldn 1 rfl rfl rfl rfl ?_
  refine p_look rfl hq h0 he rfl (fun c hc => ?_)
  refine p_ist (lv := [(0, .ref m)]) rfl rfl (fun q hq => by rcases List.mem_cons.mp hq with rfl | hq; rfl; cases hq) (fun lv g1 g2 g3 => ?_)
  have g0 : mget lv 0 = some (.ref m) := by rw [g2 0 (by decide)]; rfl
  refine p_at rfl rfl rfl rfl rfl rfl g0 hq h0 (by omega) (fun h2 a2 q2 f2 e2 => ?_)
  have u2 : a2.toInt ≤ pu a.toInt e.toInt := by unfold pu; split <;> omega
  refine mE_ildn 16 rfl g1 rfl rfl ?_
  refine mE_bip 18 40 rfl rfl rfl ?_
  refine mE_ic_ne rfl (fun hx => ?_) (fun hx => ?_)
  · refine mE_ildn 39 rfl g1 rfl rfl ?_
    refine mE_bip 41 48 rfl rfl rfl ?_
    have nm : ∀ b, mE (mcall (d + 1)) none 3 (mgd 107 mtX11_oneOf) (b + 4) (50, lv, [], h2) (fun r h' => mretok (some .int) r = true ∧ PP g ρ m h a e r h') := by
      intro b
      obtain ⟨-, -, fs, c1, -, -⟩ := id q2
      refine mE_aldn 51 rfl g0 rfl rfl ?_
      refine mE_ildn 52 rfl g1 rfl rfl ?_
      refine mE_cv [.int c] [] rfl rfl rfl rfl c1 rfl ?_
      obtain ⟨r, h', k1, rfl, v, rfl⟩ := r_nameOf hall (c := c) hg q2
      refine ⟨_, _, k1, ?_⟩
      exact mE_iret rfl ⟨rfl, v, a2, rfl, q2, f2, by omega, u2⟩
    refine mE_ic_lt rfl (fun hy => ?_) (fun hy => ?_)
    · exact mE_le (nm 0) (Nat.le_of_ble_eq_true rfl)
    · refine mE_ildn 45 rfl g1 rfl rfl ?_
      refine mE_bip 47 57 rfl rfl rfl ?_
      refine mE_ic_le rfl (fun hz => ?_) (fun hz => ?_)
      · -- a number
        refine mE_ildn 57 rfl g1 rfl rfl ?_
        refine mE_bip 59 48 rfl rfl rfl ?_
        refine mE_isub 60 _ rfl rfl rfl ?_
        refine p_ist rfl rfl g3 (fun lv2 k1 k2 k3 => ?_)
        have hlt0 := hc (fun e0 => by subst e0; exact hy (by decide))
        have key : ∀ (k : Nat) (h2 : mS) (a2 : Int32) (lv : mL) (v : Int32), PQ g ρ m h2 a2 e → okFr ρ [30] h h2 → a.toInt < a2.toInt → a2.toInt ≤ e.toInt → e.toInt - a2.toInt ≤ k → mget lv 0 = some (.ref m) → mget lv 2 = some (.int v) → (∀ q ∈ lv, mone q.2 = true) → mE (mcall (d + 1)) none 3 (mgd 107 mtX11_oneOf) (60 * k + 60) (61, lv, [], h2) (fun r h' => mretok (some .int) r = true ∧ PP g ρ m h a e r h') := by
          have fin : ∀ (b : Nat) (h2 : mS) (a2 : Int32) (lv : mL) (v : Int32), PQ g ρ m h2 a2 e → okFr ρ [30] h h2 → a.toInt < a2.toInt → a2.toInt ≤ e.toInt → mget lv 2 = some (.int v) → mE (mcall (d + 1)) none 3 (mgd 107 mtX11_oneOf) (b + 2) (105, lv, [], h2) (fun r h' => mretok (some .int) r = true ∧ PP g ρ m h a e r h') := by
            intro b h2 a2 lv v q2 f2 l2 u2 g2
            refine mE_ildn 106 rfl g2 rfl rfl ?_
            exact mE_iret rfl ⟨rfl, v, a2, rfl, q2, f2, l2, by unfold pu; split <;> omega⟩
          intro k
          induction k with
          | zero =>
            intro h2 a2 lv v q2 f2 l2 u2 hk g0 g2 g3
            refine mE_aldn 62 rfl g0 rfl rfl ?_
            refine p_look rfl q2 (by omega) he rfl (fun c hc => ?_)
            refine mE_bip 67 48 rfl rfl rfl ?_
            refine mE_ic_lt rfl (fun hx => ?_) (fun hx => ?_)
            · exact mE_le (fin 0 h2 a2 lv v q2 f2 l2 u2 g2) (by omega)
            · have := hc (fun e0 => by subst e0; exact hx (by decide))
              omega
          | succ k ih =>
            intro h2 a2 lv v q2 f2 l2 u2 hk g0 g2 g3
            refine mE_aldn 62 rfl g0 rfl rfl ?_
            refine p_look rfl q2 (by omega) he rfl (fun c hc => ?_)
            refine mE_bip 67 48 rfl rfl rfl ?_
            refine mE_ic_lt rfl (fun hx => ?_) (fun hx => ?_)
            · exact mE_le (fin 0 h2 a2 lv v q2 f2 l2 u2 g2) (by omega)
            · have hlt := hc (fun e0 => by subst e0; exact hx (by decide))
              refine mE_aldn 71 rfl g0 rfl rfl ?_
              refine p_look rfl q2 (by omega) he rfl (fun c2 hc2 => ?_)
              refine mE_bip 76 57 rfl rfl rfl ?_
              refine mE_ic_gt rfl (fun hx => ?_) (fun hx => ?_)
              · exact mE_le (fin 0 h2 a2 lv v q2 f2 l2 u2 g2) (by omega)
              · refine mE_bip 81 10 rfl rfl rfl ?_
                refine mE_ildn 82 rfl g2 rfl rfl ?_
                refine mE_imul 83 _ rfl rfl rfl ?_
                refine mE_aldn 84 rfl g0 rfl rfl ?_
                refine p_look rfl q2 (by omega) he rfl (fun c3 hc3 => ?_)
                refine mE_iadd 88 _ rfl rfl rfl ?_
                refine mE_bip 90 48 rfl rfl rfl ?_
                refine mE_isub 91 _ rfl rfl rfl ?_
                refine p_ist rfl rfl g3 (fun lv4 r1 r2 r3 => ?_)
                have k0 : mget lv4 0 = some (.ref m) := by rw [r2 0 (by decide)]; exact g0
                refine p_at rfl rfl rfl rfl rfl rfl k0 q2 (by omega) (by omega) (fun h3 a3 q3 f3 e3 => ?_)
                refine mE_goto 61 rfl rfl ?_
                exact mE_le (ih h3 a3 lv4 _ q3 (f2.trans f3) (by omega) (by omega) (by omega) k0 r1 r3) (by omega)
        refine mE_le (key 301 h2 a2 lv2 _ q2 f2 (by omega) (by omega) (by omega) (by rw [k2 0 (by decide)]; exact g0) k1 k3) (Nat.le_of_ble_eq_true rfl)
      · exact mE_le (nm 0) (Nat.le_of_ble_eq_true rfl)
  · -- a (
    have hlt := hc (c_ne0 hx (by decide))
    refine mE_aldn 22 rfl g0 rfl rfl ?_
    have hn0 : 0 < n := by omega
    refine p_sub (hC (n - 1) (by omega)) hg rfl q2 (by omega) (by omega) he (by omega) rfl (fun v h3 a3 q3 f3 l3 u3 => ?_)
    refine p_ist rfl rfl g3 (fun lv4 r1 r2 r3 => ?_)
    have k0 : mget lv4 0 = some (.ref m) := by rw [r2 0 (by decide)]; exact g0
    have u4 : a3.toInt ≤ 2 * e.toInt - a2.toInt + 1 := by
      unfold pu at u3
      rw [if_pos (by omega)] at u3
      exact u3
    refine p_at rfl rfl rfl rfl rfl rfl k0 q3 (by omega) (by omega) (fun h4 a4 q4 f4 e4 => ?_)
    refine mE_ildn 37 rfl r1 rfl rfl ?_
    refine mE_iret rfl ⟨rfl, v, a4, rfl, q4, (f2.trans f3).trans f4, by omega, ?_⟩
    unfold pu
    rw [if_pos (by omega)]
    omega
set_option maxRecDepth 10000 in
set_option maxHeartbeats 1000000 in
theorem PC_cmp {d n : Nat} (hall : CTall ci_early (d + 1)) (hC : PC (d + 1) 116 n) : PC (d + 2) 115 n := by
  refine PC_of (fun g ρ m h a e hg hq h0 h1 he hn => ?_)
  refine mR_ix [(0, .ref m)] rfl rfl rfl ?_
  refine mE_aldn 1 rfl rfl rfl rfl ?_
  refine p_sub hC hg rfl hq h0 h1 he hn rfl (fun v h2 a2 q2 f2 l2 u2 => ?_)
  refine p_ist (lv := [(0, .ref m)]) rfl rfl (fun q hq => by rcases List.mem_cons.mp hq with rfl | hq; rfl; cases hq) (fun lv g1 g2 g3 => ?_)
  have g0 : mget lv 0 = some (.ref m) := by rw [g2 0 (by decide)]; rfl
  refine mE_aldn 6 rfl g0 rfl rfl ?_
  refine p_look rfl q2 (by omega) he rfl (fun c hc => ?_)
  refine p_ist rfl rfl g3 (fun lv2 k1 k2 k3 => ?_)
  have k0 : mget lv2 0 = some (.ref m) := by rw [k2 0 (by decide)]; exact g0
  have k4 : mget lv2 1 = some (.int v) := by rw [k2 1 (by decide)]; exact g1
  obtain ⟨hH2, hm2, fs, c1, -, -⟩ := id q2
  refine mE_aldn 11 rfl k0 rfl rfl ?_
  refine mE_ildn 12 rfl k1 rfl rfl ?_
  refine mE_cv [.int c] [] rfl rfl rfl rfl c1 rfl ?_
  -- isRelation: 0 answers for 0
  by_cases hz : c = 0
  · subst hz
    have hrel : mcall (d + 1) 108 [.ref m, .int 0] h2 = some (some (.int 0), h2) := by
      have : mR (d + 1) 108 [.ref m, .int 0] h2 (fun r h' => r = some (.int 0) ∧ h' = h2) := by
        refine mR_ix [(0, .ref m), (1, .int 0)] rfl rfl rfl ?_
        refine mE_ildn 1 rfl rfl rfl rfl ?_
        refine mE_bip 3 60 rfl rfl rfl ?_
        refine mE_ic_eq_f 6 rfl (by decide) rfl ?_
        refine mE_ildn 7 rfl rfl rfl rfl ?_
        refine mE_bip 9 61 rfl rfl rfl ?_
        refine mE_ic_eq_f 12 rfl (by decide) rfl ?_
        refine mE_ildn 13 rfl rfl rfl rfl ?_
        refine mE_bip 15 62 rfl rfl rfl ?_
        refine mE_ic_ne_t 22 rfl (by decide) rfl ?_
        refine mE_ico 23 0 rfl rfl rfl ?_
        exact mE_iret rfl ⟨rfl, rfl, rfl⟩
      obtain ⟨r, h', e1, rfl, rfl⟩ := this
      exact e1
    refine ⟨_, _, hrel, ?_⟩
    refine mE_if_ne_f 18 rfl (by decide) rfl ?_
    refine mE_ildn 19 rfl k4 rfl rfl ?_
    exact mE_iret rfl ⟨rfl, v, a2, rfl, q2, f2, l2, u2⟩
  · have hlt := hc hz
    obtain ⟨r, h', e1, e2, e3, v2, rfl, ⟨x, rfl, -⟩, -⟩ := hall ci_isRelation _ rfl g ρ [.ref m, .int c] h2 hg hH2 ⟨⟨m, rfl, hm2⟩, a32_ok c, trivial⟩ (fun q hq => by cases hq)
    have e9 : h' = h2 := by
      have e1 : h'.1 = h2.1 := by
        apply List.ext_getElem?
        intro i
        by_cases hi : i < ρ.length
        · exact e3.1 i _ (List.getElem?_eq_getElem hi) (by intro hh; cases hh)
        · rw [List.getElem?_eq_none (by rw [← e2.1]; omega), List.getElem?_eq_none (by rw [← hH2.1]; omega)]
      exact Prod.ext e1 e3.2.1
    subst e9
    refine ⟨_, _, e1, ?_⟩
    refine mE_if_ne rfl (fun _ => ?_) (fun _ => ?_)
    · refine p_at rfl rfl rfl rfl rfl rfl k0 q2 (by omega) (by omega) (fun h3 a3 q3 f3 e3 => ?_)
      refine mE_aldn 31 rfl k0 rfl rfl ?_
      refine p_sub hC hg rfl q3 (by omega) (by omega) he (by omega) rfl (fun w h4 a4 q4 f4 l4 u4 => ?_)
      have u5 : a4.toInt ≤ pu a.toInt e.toInt := by
        unfold pu at u4 u2 ⊢
        rw [if_pos (by omega)] at u4 ⊢
        omega
      refine p_ist rfl rfl k3 (fun lv3 r1 r2 r3 => ?_)
      have s1 : mget lv3 1 = some (.int v) := by rw [r2 1 (by decide)]; exact k4
      have s2 : mget lv3 2 = some (.int c) := by rw [r2 2 (by decide)]; exact k1
      have fin : ∀ (x : Int32) (b : Nat), mE (mcall (d + 1)) none 4 (mgd 74 mtX11_compareOf) (b + 1) (73, lv3, [.int x], h4) (fun r h' => mretok (some .int) r = true ∧ PP g ρ m h a e r h') := fun x b => mE_iret rfl ⟨rfl, x, a4, rfl, q4, (f2.trans f3).trans f4, by omega, u5⟩
      have j72 : ∀ b : Nat, mE (mcall (d + 1)) none 4 (mgd 74 mtX11_compareOf) (b + 2) (72, lv3, [], h4) (fun r h' => mretok (some .int) r = true ∧ PP g ρ m h a e r h') := fun b => mE_ico 73 0 rfl rfl rfl (fin 0 b)
      have j68 : ∀ b : Nat, mE (mcall (d + 1)) none 4 (mgd 74 mtX11_compareOf) (b + 3) (68, lv3, [], h4) (fun r h' => mretok (some .int) r = true ∧ PP g ρ m h a e r h') := fun b => mE_ico 69 1 rfl rfl rfl (mE_goto 73 rfl rfl (fin 1 b))
      refine mE_ildn 36 rfl s2 rfl rfl ?_
      refine mE_bip 38 60 rfl rfl rfl ?_
      refine mE_ic_ne rfl (fun _ => ?_) (fun _ => ?_)
      · refine mE_ildn 50 rfl s2 rfl rfl ?_
        refine mE_bip 52 61 rfl rfl rfl ?_
        refine mE_ic_ne rfl (fun _ => ?_) (fun _ => ?_)
        · refine mE_ildn 64 rfl s1 rfl rfl ?_
          refine mE_ildn 65 rfl r1 rfl rfl ?_
          refine mE_ic_le rfl (fun _ => j72 _) (fun _ => j68 _)
        · refine mE_ildn 56 rfl s1 rfl rfl ?_
          refine mE_ildn 57 rfl r1 rfl rfl ?_
          refine mE_ic_ne rfl (fun _ => j72 _) (fun _ => ?_)
          exact mE_goto 68 rfl rfl (j68 _)
      · refine mE_ildn 42 rfl s1 rfl rfl ?_
        refine mE_ildn 43 rfl r1 rfl rfl ?_
        refine mE_ic_ge rfl (fun _ => j72 _) (fun _ => ?_)
        exact mE_goto 68 rfl rfl (j68 _)
    · refine mE_ildn 19 rfl k4 rfl rfl ?_
      exact mE_iret rfl ⟨rfl, v, a2, rfl, q2, f2, l2, u2⟩
set_option maxRecDepth 10000 in
set_option maxHeartbeats 1000000 in
theorem PC_not {d n : Nat} (hC : PC (d + 1) 115 n) : PC (d + 2) 114 n := by
  refine PC_of (fun g ρ m h a e hg hq h0 h1 he hn => ?_)
  refine mR_ix [(0, .ref m)] rfl rfl rfl ?_
  refine mE_ico 1 0 rfl rfl rfl ?_
  refine p_ist (lv := [(0, .ref m)]) rfl rfl (fun q hq => by rcases List.mem_cons.mp hq with rfl | hq; rfl; cases hq) (fun lv g1 g2 g3 => ?_)
  have last : ∀ (h2 : mS) (a2 : Int32) (lv : mL) (t : Int32), PQ g ρ m h2 a2 e → okFr ρ [30] h h2 → a.toInt ≤ a2.toInt → (a2.toInt ≤ e.toInt ∨ a2.toInt = a.toInt) → mget lv 0 = some (.ref m) → mget lv 1 = some (.int t) → (∀ q ∈ lv, mone q.2 = true) → mE (mcall (d + 1)) none 3 (mgd 69 mtX11_notOf) 40 (27, lv, [], h2) (fun r h' => mretok (some .int) r = true ∧ PP g ρ m h a e r h') := by
    intro h2 a2 lv t q2 f2 l2 u2 g0 g1 g3
    refine mE_aldn 28 rfl g0 rfl rfl ?_
    refine p_sub hC hg rfl q2 (by omega) (by omega) he (by omega) rfl (fun w h4 a4 q4 f4 l4 u4 => ?_)
    have u5 : a4.toInt ≤ pu a.toInt e.toInt := by
      unfold pu at u4 ⊢
      revert u4
      split <;> split <;> omega
    refine p_ist rfl rfl g3 (fun lv3 r1 r2 r3 => ?_)
    have s1 : mget lv3 1 = some (.int t) := by rw [r2 1 (by decide)]; exact g1
    have fin : ∀ (x : Int32) (b : Nat), mE (mcall (d + 1)) none 3 (mgd 69 mtX11_notOf) (b + 1) (68, lv3, [.int x], h4) (fun r h' => mretok (some .int) r = true ∧ PP g ρ m h a e r h') := fun x b => mE_iret rfl ⟨rfl, x, a4, rfl, q4, f2.trans f4, by omega, u5⟩
    refine mE_ildn 33 rfl s1 rfl rfl ?_
    refine mE_if_ne rfl (fun _ => ?_) (fun _ => ?_)
    · have j60 : ∀ (x y : Int32) (b : Nat), mE (mcall (d + 1)) none 3 (mgd 69 mtX11_notOf) (b + 4) (60, lv3, [.int y, .int x], h4) (fun r h' => mretok (some .int) r = true ∧ PP g ρ m h a e r h') := by
        intro x y b
        refine mE_ic_ne rfl (fun _ => ?_) (fun _ => ?_)
        · exact mE_ico 68 0 rfl rfl rfl (fin 0 _)
        · exact mE_ico 64 1 rfl rfl rfl (mE_goto 68 rfl rfl (fin 1 _))
      have j49 : ∀ (x : Int32) (b : Nat), mE (mcall (d + 1)) none 3 (mgd 69 mtX11_notOf) (b + 10) (49, lv3, [.int x], h4) (fun r h' => mretok (some .int) r = true ∧ PP g ρ m h a e r h') := by
        intro x b
        refine mE_ildn 50 rfl s1 rfl rfl ?_
        refine mE_ico 51 2 rfl rfl rfl ?_
        refine mE_irem 52 _ rfl (by decide) rfl rfl ?_
        refine mE_if_ne rfl (fun _ => ?_) (fun _ => ?_)
        · exact mE_ico 60 0 rfl rfl rfl (j60 x 0 _)
        · exact mE_ico 56 1 rfl rfl rfl (mE_goto 60 rfl rfl (j60 x 1 _))
      refine mE_ildn 41 rfl r1 rfl rfl ?_
      refine mE_if_eq rfl (fun _ => ?_) (fun _ => ?_)
      · exact mE_ico 49 0 rfl rfl rfl (j49 0 _)
      · exact mE_ico 45 1 rfl rfl rfl (mE_goto 49 rfl rfl (j49 1 _))
    · refine mE_ildn 37 rfl r1 rfl rfl ?_
      exact mE_goto 68 rfl rfl (fin w _)
  have key : ∀ (k : Nat) (h2 : mS) (a2 : Int32) (lv : mL) (t : Int32), PQ g ρ m h2 a2 e → okFr ρ [30] h h2 → a.toInt ≤ a2.toInt → (a2.toInt ≤ e.toInt ∨ a2.toInt = a.toInt) → e.toInt - a2.toInt ≤ k → mget lv 0 = some (.ref m) → mget lv 1 = some (.int t) → (∀ q ∈ lv, mone q.2 = true) → mE (mcall (d + 1)) none 3 (mgd 69 mtX11_notOf) (60 * k + 60) (2, lv, [], h2) (fun r h' => mretok (some .int) r = true ∧ PP g ρ m h a e r h') := by
    intro k
    induction k with
    | zero =>
      intro h2 a2 lv t q2 f2 l2 u2 hk g0 g1 g3
      refine mE_aldn 3 rfl g0 rfl rfl ?_
      refine p_look rfl q2 (by omega) he rfl (fun c hc => ?_)
      refine mE_bip 8 33 rfl rfl rfl ?_
      refine mE_ic_ne rfl (fun hx => ?_) (fun hx => ?_)
      · exact mE_le (last h2 a2 lv t q2 f2 l2 u2 g0 g1 g3) (by omega)
      · have := hc (c_ne0 hx (by decide))
        omega
    | succ k ih =>
      intro h2 a2 lv t q2 f2 l2 u2 hk g0 g1 g3
      refine mE_aldn 3 rfl g0 rfl rfl ?_
      refine p_look rfl q2 (by omega) he rfl (fun c hc => ?_)
      refine mE_bip 8 33 rfl rfl rfl ?_
      refine mE_ic_ne rfl (fun hx => ?_) (fun hx => ?_)
      · exact mE_le (last h2 a2 lv t q2 f2 l2 u2 g0 g1 g3) (by omega)
      · have hlt := hc (c_ne0 hx (by decide))
        refine p_at rfl rfl rfl rfl rfl rfl g0 q2 (by omega) (by omega) (fun h3 a3 q3 f3 e3 => ?_)
        refine mE_iinc 24 _ _ rfl g1 rfl rfl rfl rfl ?_
        refine mE_goto 2 rfl rfl ?_
        exact mE_le (ih h3 a3 _ _ q3 (f2.trans f3) (by omega) (by omega) (by omega) (by rw [mget_put lv 1 0 _ (by decide) g3]; exact g0) (mget_put_self _ _ _) (mput_mone g3 rfl)) (by omega)
  exact mE_le (key 301 h a lv _ hq okFr.rfl (by omega) (Or.inr rfl) (by omega) (by rw [g2 0 (by decide)]; rfl) g1 g3) (Nat.le_of_ble_eq_true rfl)
theorem PC.le {d d' y n : Nat} (hC : PC d y n) (hd : d ≤ d') : PC d' y n := by
  intro g ρ m h a e h1 h2 h3 h4 h5 h6
  obtain ⟨v, h', a', e1, e2⟩ := hC g ρ m h a e h1 h2 h3 h4 h5 h6
  exact ⟨v, h', a', mcall_le hd e1, e2⟩
theorem CTall.le {n d d' : Nat} (h : CTall n d) (hd : d ≤ d') : CTall n d' := fun i q hq => (h i q hq).le hd
/-- all of them, by what is left of the text -/
theorem PC_anyOf {d : Nat} (hall : CTall ci_early (d + 1)) : ∀ n : Nat, PC (d + 7 * n + 8) 112 n := by
  intro n
  induction n using Nat.strongRecOn with
  | ind n ih =>
    have h1 : ∀ k, k < n → PC (d + 7 * n + 1) 112 k := fun k hk => (ih k hk).le (by omega)
    have a1 := PC_one (d := d + 7 * n) (hall.le (by omega)) h1
    have a2 := PC_prod (d := d + 7 * n + 1) a1
    have a3 := PC_sum (d := d + 7 * n + 2) a2
    have a4 := PC_cmp (d := d + 7 * n + 3) (hall.le (by omega)) a3
    have a5 := PC_not (d := d + 7 * n + 4) a4
    have a6 := PC_all (d := d + 7 * n + 5) a5
    exact PC_any (d := d + 7 * n + 6) a6
theorem CT_anyOf {d : Nat} (hall : CTall ci_early (d + 1)) (b : Int) (h0 : 0 ≤ b) (h1 : b ≤ 240) : CT rI0 aBl (d + 428) (112, [(3, 30, 0)], [(28, (0, b, b)), (30, (0, b, b + 60))], some ((0, -2147483648, 2147483647), 0, (0, -2147483648, 2147483647)), [30]) := by
  intro g ρ as h hg hH hA hT
  match as, hA with
  | [v0], hA =>
    obtain ⟨⟨m, rfl, hm⟩, -⟩ := hA
    have hm : ρ[m]? = some 30 := hm
    obtain ⟨v1, e1, a, rfl, a1, a2⟩ := hT _ List.mem_cons_self
    obtain ⟨v2, e2, e, rfl, b1, b2⟩ := hT _ (List.mem_cons_of_mem _ List.mem_cons_self)
    have a1 : b ≤ a.toInt := a1
    have a2 : a.toInt ≤ b := a2
    have b2 : e.toInt ≤ b + 60 := b2
    obtain ⟨fs, c1, -, -⟩ := fld hH hm rM_eq
    have hq : PQ g ρ m h a e := by
      refine ⟨hH, hm, fs, c1, ?_, ?_⟩
      · unfold vcell at e1
        simpa only [List.getElem?_cons_zero, c1] using e1
      · unfold vcell at e2
        simpa only [List.getElem?_cons_zero, c1] using e2
    obtain ⟨v, h', a', k1, k2, k3, k4, k5⟩ := PC_anyOf hall 60 g ρ m h a e hg hq (by omega) (by omega) (by omega) (by omega)
    exact ⟨_, _, k1, k2.1, k3, _, rfl, a32_ok v, fun hh => absurd rfl hh⟩
def asubL (B : aB) : List aV → List aV → Bool
  | [], [] => true
  | s :: ss, t :: ts => asub B s t && asubL B ss ts
  | _, _ => false
theorem asubL_ok {B : aB} {g : Nat → Int} {ρ : List Nat} (hg : okG B g) : ∀ {ss ts : List aV} {as : List Value}, asubL B ss ts = true → okA g ρ ss as → okA g ρ ts as
  | [], [], [], _, _ => trivial
  | _ :: _, _ :: _, _ :: _, h, hA => by
    obtain ⟨h1, h2⟩ := mand h
    exact ⟨asub_ok hg h1 hA.1, asubL_ok hg h2 hA.2⟩
  | [], [], _ :: _, _, hA => hA.elim
  | [], _ :: _, _, h, _ => by cases h
  | _ :: _, [], _, h, _ => by cases h
  | _ :: _, _ :: _, [], _, hA => hA.elim
theorem CT_weak {rI : Nat → Option aR} {B : aB} {d y : Nat} {as as' : List aV} {ret : Option (aV × Nat × aV)} {md md' : List Nat} (hc : CT rI B d (y, as, [], ret, md)) (ha : asubL B as' as = true) (hm : md.all (fun r => md'.elem r) = true) : CT rI B d (y, as', [], ret, md') := by
  intro g ρ vs h hg hH hA hT
  obtain ⟨r, h', e1, e2, e3, e4⟩ := hc g ρ vs h hg hH (asubL_ok hg ha hA) (fun q hq => by cases hq)
  exact ⟨r, h', e1, e2, ⟨fun k r x y => e3.1 k r x (fun hh => y (elem_mem (List.all_eq_true.mp hm r hh))), e3.2.1, e3.2.2.imp (fun z => List.all_eq_true.mp hm 53 (elem_mem z)) (fun z => z)⟩, e4⟩
/-- a contract over 0 .. 2 out of its points -/
theorem CT_split {rI : Nat → Option aR} {B : aB} {d y : Nat} {t0 : aV} {ts : List aV} {ret : Option (aV × Nat × aV)} {md : List Nat} (h0 : CT rI B d (y, t0 :: (0, 0, 0) :: ts, [], ret, md)) (h1 : CT rI B d (y, t0 :: (0, 1, 1) :: ts, [], ret, md)) (h2 : CT rI B d (y, t0 :: (0, 2, 2) :: ts, [], ret, md)) : CT rI B d (y, t0 :: (0, 0, 2) :: ts, [], ret, md) := by
  intro g ρ vs h hg hH hA hT
  match vs, hA with
  | v :: k :: vs, hA =>
    obtain ⟨a1, ⟨x, rfl, x1, x2⟩, a2⟩ := hA
    have x1 : 0 ≤ x.toInt := x1
    have x2 : x.toInt ≤ 2 := x2
    rcases (show x.toInt = 0 ∨ x.toInt = 1 ∨ x.toInt = 2 by omega) with hx | hx | hx
    · exact h0 g ρ _ h hg hH ⟨a1, ⟨x, rfl, by show 0 ≤ x.toInt; omega, by show x.toInt ≤ 0; omega⟩, a2⟩ hT
    · exact h1 g ρ _ h hg hH ⟨a1, ⟨x, rfl, by show 1 ≤ x.toInt; omega, by show x.toInt ≤ 1; omega⟩, a2⟩ hT
    · exact h2 g ρ _ h hg hH ⟨a1, ⟨x, rfl, by show 2 ≤ x.toInt; omega, by show x.toInt ≤ 2; omega⟩, a2⟩ hT
