/-! leaves by hand: within, isHouse, isStrip of both sides -/
theorem mE_le {cal : Nat → List Value → mS → Option (Option Value × mS)} {scr : Option (Nat × (Nat → Int32))} {nL : Nat} {tab : Nat → Option mI} {b b' : Nat} {s : mX} {P : Option Value → mS → Prop} (h : mE cal scr nL tab b s P) (hb : b ≤ b') : mE cal scr nL tab b' s P := by
  obtain ⟨r, h', h1, h2⟩ := h
  exact ⟨r, h', mloop_le h1 hb, h2⟩
theorem mE_imp {cal : Nat → List Value → mS → Option (Option Value × mS)} {scr : Option (Nat × (Nat → Int32))} {nL : Nat} {tab : Nat → Option mI} {b : Nat} {s : mX} {P Q : Option Value → mS → Prop} (h : mE cal scr nL tab b s P) (hp : ∀ r h, P r h → Q r h) : mE cal scr nL tab b s Q := by
  obtain ⟨r, h', h1, h2⟩ := h
  exact ⟨r, h', h1, hp _ _ h2⟩
set_option maxRecDepth 10000 in
theorem r_within (d : Nat) (v a b : Int32) (h : mS) : mR (d + 1) 82 [.int v, .int a, .int b] h (fun r h' => r = some (.int (if a ≤ v ∧ v ≤ b then 1 else 0)) ∧ h' = h) := by
  refine mR_ix [(0, .int v), (1, .int a), (2, .int b)] rfl rfl rfl ?_
  refine mE_ildn 1 rfl rfl rfl rfl ?_
  refine mE_ildn 2 rfl rfl rfl rfl ?_
  refine mE_ic_lt rfl (fun h1 => ?_) (fun h1 => ?_)
  · refine mE_ico 15 0 rfl rfl rfl ?_
    refine mE_iret rfl ⟨rfl, ?_, rfl⟩
    rw [if_neg (fun q => Int32.not_le.mpr h1 q.1)]
  · refine mE_ildn 6 rfl rfl rfl rfl ?_
    refine mE_ildn 7 rfl rfl rfl rfl ?_
    refine mE_ic_gt rfl (fun h2 => ?_) (fun h2 => ?_)
    · refine mE_ico 15 0 rfl rfl rfl ?_
      refine mE_iret rfl ⟨rfl, ?_, rfl⟩
      rw [if_neg (fun q => Int32.not_le.mpr h2 q.2)]
    · refine mE_ico 11 1 rfl rfl rfl ?_
      refine mE_goto 15 rfl rfl ?_
      refine mE_iret rfl ⟨rfl, ?_, rfl⟩
      rw [if_pos ⟨Int32.not_lt.mp h1, Int32.not_lt.mp h2⟩]
set_option maxRecDepth 10000 in
theorem r_Mwithin (d : Nat) (v a b : Int32) (h : mS) : mR (d + 1) 105 [.int v, .int a, .int b] h (fun r h' => r = some (.int (if a ≤ v ∧ v ≤ b then 1 else 0)) ∧ h' = h) := by
  refine mR_ix [(0, .int v), (1, .int a), (2, .int b)] rfl rfl rfl ?_
  refine mE_ildn 1 rfl rfl rfl rfl ?_
  refine mE_ildn 2 rfl rfl rfl rfl ?_
  refine mE_ic_lt rfl (fun h1 => ?_) (fun h1 => ?_)
  · refine mE_ico 15 0 rfl rfl rfl ?_
    refine mE_iret rfl ⟨rfl, ?_, rfl⟩
    rw [if_neg (fun q => Int32.not_le.mpr h1 q.1)]
  · refine mE_ildn 6 rfl rfl rfl rfl ?_
    refine mE_ildn 7 rfl rfl rfl rfl ?_
    refine mE_ic_gt rfl (fun h2 => ?_) (fun h2 => ?_)
    · refine mE_ico 15 0 rfl rfl rfl ?_
      refine mE_iret rfl ⟨rfl, ?_, rfl⟩
      rw [if_neg (fun q => Int32.not_le.mpr h2 q.2)]
    · refine mE_ico 11 1 rfl rfl rfl ?_
      refine mE_goto 15 rfl rfl ?_
      refine mE_iret rfl ⟨rfl, ?_, rfl⟩
      rw [if_pos ⟨Int32.not_lt.mp h1, Int32.not_lt.mp h2⟩]
theorem okFr.rfl {ρ md : List Nat} {h : mS} : okFr ρ md h h := ⟨fun _ _ _ _ => Eq.refl _, Eq.refl _, Or.inr RR.refl⟩
theorem bit1 {g : Nat → Int} {ρ : List Nat} : hasT g ρ (0, 0, 1) (.int 1) := ⟨1, rfl, by decide, by decide⟩
theorem bit0 {g : Nat → Int} {ρ : List Nat} : hasT g ρ (0, 0, 1) (.int 0) := ⟨0, rfl, by decide, by decide⟩
/-- a number is between two: what the answer tells -/
theorem CT_within {rI : Nat → Option aR} {B : aB} {y d : Nat} (hy : ∀ (v a b : Int32) (h : mS), mR (d + 1) y [.int v, .int a, .int b] h (fun r h' => r = some (.int (if a ≤ v ∧ v ≤ b then 1 else 0)) ∧ h' = h)) (p1 p2 q1 q2 : Int) : CT rI B (d + 1) (y, [(0, -2147483648, 2147483647), (0, p1, p2), (0, q1, q2)], [], some ((0, 0, 1), 1, (0, p1, q2)), []) := by
  intro g ρ as h hg hH hA hT
  match as, hA with
  | [v0, a0, b0], hA =>
    obtain ⟨⟨v, rfl, v1, v2⟩, ⟨a, rfl, a1, a2⟩, ⟨b, rfl, b1, b2⟩, -⟩ := hA
    obtain ⟨r, h', e1, rfl, rfl⟩ := hy v a b h
    refine ⟨_, _, e1, hH, okFr.rfl, _, rfl, ?_, fun _ => ?_⟩
    · split
      · exact bit1
      · exact bit0
    · split
      · rename_i hc
        refine Or.inr ⟨.int v, rfl, v, rfl, ?_, ?_⟩
        · have := Int32.le_iff_toInt_le.mp hc.1
          show p1 ≤ v.toInt
          have a1 : p1 ≤ a.toInt := a1
          omega
        · have := Int32.le_iff_toInt_le.mp hc.2
          show v.toInt ≤ q2
          have b2 : b.toInt ≤ q2 := b2
          omega
      · exact Or.inl rfl
/-- a field of an object of a role -/
theorem fld {rI : Nat → Option aR} {g : Nat → Int} {ρ : List Nat} {h : List mC} {k r ci : Nat} {fts : List aV} (hH : okH rI g ρ h) (hk : ρ[k]? = some r) (hr : rI r = some (.inl (ci, fts))) : ∃ fs : List Value, h[k]? = some (.inr (ci, fs)) ∧ fs.length = fts.length ∧ ∀ (j : Nat) (t : aV), fts[j]? = some t → ∃ v, fs[j]? = some v ∧ hasT g ρ t v := by
  obtain ⟨c, h1, fs, rfl, h2, h3⟩ := hH.at hk hr
  refine ⟨fs, h1, h2, fun j t hj => ?_⟩
  have hl : j < fs.length := by rw [h2]; exact (List.getElem?_eq_some_iff.mp hj).1
  exact ⟨_, List.getElem?_eq_getElem hl, h3 j t _ hj (List.getElem?_eq_getElem hl)⟩
set_option maxRecDepth 10000 in
theorem r_isX (d y j : Nat) (v n : Int32) (k : Nat) (h : mS) (fs : List Value) (hc : h.1[k]? = some (.inr (10, fs))) (hf : fs[j]? = some (.int n)) (hn : 0 ≤ n.toInt) (hyj : (y = 83 ∧ j = 10) ∨ (y = 84 ∧ j = 11)) : mR (d + 2) y [.ref k, .int v] h (fun r h' => r = some (.int (if 0 ≤ v.toInt ∧ v.toInt < n.toInt then 1 else 0)) ∧ h' = h) := by
  have e0 : (0 : Int32).toInt = 0 := by decide
  have e1 : (1 : Int32).toInt = 1 := by decide
  have e2 : (n - 1).toInt = n.toInt - 1 := by
    have := Int32.toInt_lt n
    rw [sub_id (by omega) (by omega), e1]
  have fin : ∀ r : Option Value, r = some (.int (if 0 ≤ v ∧ v ≤ n - 1 then 1 else 0)) → r = some (.int (if 0 ≤ v.toInt ∧ v.toInt < n.toInt then 1 else 0)) := by
    intro r hr
    rw [hr]
    have : (0 ≤ v ∧ v ≤ n - 1) ↔ (0 ≤ v.toInt ∧ v.toInt < n.toInt) := by
      rw [Int32.le_iff_toInt_le, Int32.le_iff_toInt_le, e0, e2]
      omega
    simp only [this]
  have bit : ∀ (p : Prop) [Decidable p], ((if p then (1 : Int32) else 0) == 0 || (if p then (1 : Int32) else 0) == 1) = true := by
    intro p _
    split <;> rfl
  rcases hyj with ⟨rfl, rfl⟩ | ⟨rfl, rfl⟩
  · refine mR_ix [(0, .ref k), (1, .int v)] rfl rfl rfl ?_
    refine mE_ildn 1 rfl rfl rfl rfl ?_
    refine mE_ico 2 0 rfl rfl rfl ?_
    refine mE_aldn 3 rfl rfl rfl rfl ?_
    refine mE_gf 6 rfl rfl hc hf rfl ?_
    refine mE_ico 7 1 rfl rfl rfl ?_
    refine mE_isub 8 (n - 1) rfl rfl rfl ?_
    refine mE_cs [.int v, .int 0, .int (n - 1)] [] rfl rfl rfl rfl rfl ?_
    obtain ⟨r, h', k1, rfl, rfl⟩ := r_within d v 0 (n - 1) h
    refine ⟨_, _, k1, ?_⟩
    exact mE_iret rfl ⟨bit _, fin _ rfl, rfl⟩
  · refine mR_ix [(0, .ref k), (1, .int v)] rfl rfl rfl ?_
    refine mE_ildn 1 rfl rfl rfl rfl ?_
    refine mE_ico 2 0 rfl rfl rfl ?_
    refine mE_aldn 3 rfl rfl rfl rfl ?_
    refine mE_gf 6 rfl rfl hc hf rfl ?_
    refine mE_ico 7 1 rfl rfl rfl ?_
    refine mE_isub 8 (n - 1) rfl rfl rfl ?_
    refine mE_cs [.int v, .int 0, .int (n - 1)] [] rfl rfl rfl rfl rfl ?_
    obtain ⟨r, h', k1, rfl, rfl⟩ := r_within d v 0 (n - 1) h
    refine ⟨_, _, k1, ?_⟩
    exact mE_iret rfl ⟨bit _, fin _ rfl, rfl⟩
set_option maxRecDepth 10000 in
theorem r_MisX (d y j : Nat) (v n : Int32) (k : Nat) (h : mS) (fs : List Value) (hc : h.1[k]? = some (.inr (11, fs))) (hf : fs[j]? = some (.int n)) (hyj : (y = 106 ∧ j = 9) ∨ (y = 107 ∧ j = 21)) : mR (d + 1) y [.ref k, .int v] h (fun r h' => r = some (.int (if 0 ≤ v.toInt ∧ v.toInt < n.toInt then 1 else 0)) ∧ h' = h) := by
  have e0 : (0 : Int32).toInt = 0 := by decide
  rcases hyj with ⟨rfl, rfl⟩ | ⟨rfl, rfl⟩
  all_goals
    refine mR_ix [(0, .ref k), (1, .int v)] rfl rfl rfl ?_
    refine mE_ildn 1 rfl rfl rfl rfl ?_
    refine mE_if_lt rfl (fun h1 => ?_) (fun h1 => ?_)
    · refine mE_ico 17 0 rfl rfl rfl ?_
      refine mE_iret rfl ⟨rfl, ?_, rfl⟩
      have := Int32.lt_iff_toInt_lt.mp h1
      rw [if_neg (by omega)]
    · refine mE_ildn 5 rfl rfl rfl rfl ?_
      refine mE_aldn 6 rfl rfl rfl rfl ?_
      refine mE_gf 9 rfl rfl hc hf rfl ?_
      have h1 := Int32.le_iff_toInt_le.mp (Int32.not_lt.mp h1)
      refine mE_ic_ge rfl (fun h2 => ?_) (fun h2 => ?_)
      · refine mE_ico 17 0 rfl rfl rfl ?_
        refine mE_iret rfl ⟨rfl, ?_, rfl⟩
        have := Int32.le_iff_toInt_le.mp h2
        rw [if_neg (by omega)]
      · refine mE_ico 13 1 rfl rfl rfl ?_
        refine mE_goto 17 rfl rfl ?_
        refine mE_iret rfl ⟨rfl, ?_, rfl⟩
        have := Int32.lt_iff_toInt_lt.mp (Int32.not_le.mp h2)
        rw [if_pos (by omega)]
/-- isHouse and isStrip of both: what the answer tells -/
theorem CT_isX {rI : Nat → Option aR} {B : aB} {d y j ci r p : Nat} {hi : Int} {fts : List aV} (hr : rI r = some (.inl (ci, fts))) (hj : fts[j]? = some (1, (p : Int), 0)) (hb : B[p]? = some (0, hi)) (hR : ∀ (v n : Int32) (k : Nat) (h : mS) (fs : List Value), h.1[k]? = some (.inr (ci, fs)) → fs[j]? = some (.int n) → 0 ≤ n.toInt → mR d y [.ref k, .int v] h (fun r h' => r = some (.int (if 0 ≤ v.toInt ∧ v.toInt < n.toInt then 1 else 0)) ∧ h' = h)) : CT rI B d (y, [(3, (r : Int), 0), (0, -2147483648, 2147483647)], [], some ((0, 0, 1), 2, (2, (p : Int), -1)), []) := by
  intro g ρ as h hg hH hA hT
  match as, hA with
  | [k0, v0], hA =>
    obtain ⟨⟨k, rfl, hk⟩, ⟨v, rfl, -, -⟩, -⟩ := hA
    have hk : ρ[k]? = some r := hk
    obtain ⟨fs, c1, -, c2⟩ := fld hH hk hr
    obtain ⟨n0, c3, n, rfl, c4⟩ := c2 j _ hj
    have c4 : n.toInt = g p + 0 := c4
    have hgp := hg p _ hb
    have hgp : 0 ≤ g p := hgp.1
    obtain ⟨r1, h', e1, rfl, rfl⟩ := hR v n k h fs c1 c3 (by omega)
    refine ⟨_, _, e1, hH, okFr.rfl, _, rfl, ?_, fun _ => ?_⟩
    · split
      · exact bit1
      · exact bit0
    · split
      · rename_i hc
        refine Or.inr ⟨.int v, rfl, v, rfl, hc.1, ?_⟩
        show v.toInt ≤ g p + -1
        omega
      · exact Or.inl rfl
/-- all contracts below n, at depth d -/
def CTall (n d : Nat) : Prop := ∀ i q, ctU n i = some q → CT rI0 aBl d q
theorem CTall_succ {n d : Nat} {c : aCT} (hn : ctl[n]? = some c) (h : CTall n d) (hc : CT rI0 aBl (d + 1) c) : CTall (n + 1) (d + 1) := by
  intro i q hq
  unfold ctU at hq
  cases hb : Nat.blt i (n + 1) with
  | false => rw [hb] at hq; cases hq
  | true =>
    rw [hb, cond_true] at hq
    have hb := Nat.blt_eq.mp hb
    by_cases he : i = n
    · subst he
      rw [hn] at hq
      cases hq
      exact hc
    · refine (h i q ?_).le (by omega)
      unfold ctU
      rw [Nat.blt_eq.mpr (by omega), cond_true]
      exact hq
theorem CTall_chk {n d f : Nat} {c : aCT} {anl : List (Nat × aAn)} {cal : List (Nat × Nat)} (hn : ctl[n]? = some c) (h : CTall n d) (hc : acheck aBl rI0 (ctU n) c anl cal f = true) : CTall (n + 1) (d + 1) := CTall_succ hn h (acheck_ok hc h)
theorem CTall_0 : CTall 0 2 := by
  intro i q hq
  unfold ctU at hq
  have : Nat.blt i 0 = false := by
    cases hb : Nat.blt i 0 with
    | true => have := Nat.blt_eq.mp hb; omega
    | false => rfl
  rw [this] at hq
  cases hq
