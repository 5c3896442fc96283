/-! the rules of a symbolic run -/
def mE (cal : Nat → List Value → mS → Option (Option Value × mS)) (scr : Option (Nat × (Nat → Int32))) (nL : Nat) (tab : Nat → Option mI) (b : Nat) (s : mX) (P : Option Value → mS → Prop) : Prop := ∃ r h', mloop cal scr nL tab b s.1 s.2.1 s.2.2.1 s.2.2.2 = some (r, h') ∧ P r h'
def mR (d y : Nat) (as : List Value) (h : mS) (P : Option Value → mS → Prop) : Prop := ∃ r h', mcall d y as h = some (r, h') ∧ P r h'
section MRU
variable {d : Nat} {cal : Nat → List Value → mS → Option (Option Value × mS)} {scr : Option (Nat × (Nat → Int32))} {nL : Nat} {tab : Nat → Option mI} {b : Nat} {s : mX} {P : Option Value → mS → Prop}
theorem mE_blk (k : Nat) (s' : mX) (hs : msteps cal scr nL tab k s = some s') (h : mE cal scr nL tab b s' P) : mE cal scr nL tab (b + k) s P := by
  obtain ⟨r, h', h1, h2⟩ := h
  exact ⟨r, h', by rw [mloop_steps k s s' hs b]; exact h1, h2⟩
theorem mE_br {c : Prop} [Decidable c] {x : mI} (s1 s2 : mX) (ht : tab s.1 = some x) (hs : mstep scr nL s.1 s.2.1 s.2.2.1 s.2.2.2 x = if c then some (.inl s1) else some (.inl s2)) (h1 : c → mE cal scr nL tab b s1 P) (h2 : ¬ c → mE cal scr nL tab b s2 P) : mE cal scr nL tab (b + 1) s P := by
  by_cases hc : c
  · rw [if_pos hc] at hs
    obtain ⟨r, h', h3, h4⟩ := h1 hc
    refine ⟨r, h', ?_, h4⟩
    rw [mloop_eq, ht]
    simp only [hs]
    exact h3
  · rw [if_neg hc] at hs
    obtain ⟨r, h', h3, h4⟩ := h2 hc
    refine ⟨r, h', ?_, h4⟩
    rw [mloop_eq, ht]
    simp only [hs]
    exact h3
theorem mE_call {x : mI} {y : Nat} {as rest : List Value} (ht : tab s.1 = some x) (hs : mstep scr nL s.1 s.2.1 s.2.2.1 s.2.2.2 x = some (.inr (.inr (y, as, rest)))) (hc : mR d y as s.2.2.2 (fun r h' => mE (mcall d) scr nL tab b (s.1 + 3, s.2.1, r.toList ++ rest, h') P)) : mE (mcall d) scr nL tab (b + 1) s P := by
  obtain ⟨r, h', h1, r2, h2, h3, h4⟩ := hc
  refine ⟨r2, h2, ?_, h4⟩
  rw [mloop_eq, ht]
  simp only [hs, h1]
  exact h3
theorem mE_ret {x : mI} {r : Option Value} (ht : tab s.1 = some x) (hs : mstep scr nL s.1 s.2.1 s.2.2.1 s.2.2.2 x = some (.inr (.inl r))) (h : P r s.2.2.2) : mE cal scr nL tab (b + 1) s P := by
  refine ⟨r, s.2.2.2, ?_, h⟩
  rw [mloop_eq, ht]
  simp only [hs]
end MRU
theorem mR_in {d y : Nat} {as : List Value} {h : mS} {P : Option Value → mS → Prop} (M : mM) (hM : mmOf y = some M) (ha : (Nat.ble as.length M.2.2.1 && as.all mone) = true) (hO : mE (mcall d) none M.2.2.1 (mgd M.2.2.2.2.2.2.2 M.2.2.2.2.1) mfuel (0, lv_args 0 as, [], h) (fun r h' => mretok M.2.2.2.1 r = true ∧ P r h')) : mR (d + 1) y as h P := by
  obtain ⟨r, h', h1, h2, h3⟩ := hO
  refine ⟨r, h', ?_, h3⟩
  unfold mcall
  rw [hM]
  simp only [ha, cond_true]
  have h1 : mloop (mcall d) none M.2.2.1 (mgd M.2.2.2.2.2.2.2 M.2.2.2.2.1) mfuel 0 (lv_args 0 as) [] h = some (r, h') := h1
  rw [h1]
  simp only [h2, cond_true]
/-- both sides' first call, from the fresh objects -/
def mBoth (y1 y2 : Nat) (as : List Value) : Prop := ∃ (v : Int32) (h1 h2 : mS) (fs : List Value), mcall 12 y1 (.ref 0 :: as) mh0 = some (some (.int v), h1) ∧ h1.1[47]? = some (.inr (11, fs)) ∧ mcall 12 y2 (.ref 47 :: as) h1 = some (some (.int v), h2) ∧ h2.1.length ≤ 600000 ∧ h2.2 ≤ 7302250
theorem mBoth_of {y1 y2 : Nat} {as : List Value} (h : mR 12 y1 (.ref 0 :: as) mh0 (fun r1 h1 => (∃ fs, h1.1[47]? = some (.inr (11, fs))) ∧ mR 12 y2 (.ref 47 :: as) h1 (fun r2 h2 => ∃ v : Int32, r1 = some (.int v) ∧ r2 = some (.int v) ∧ h2.1.length ≤ 600000 ∧ h2.2 ≤ 7302250))) : mBoth y1 y2 as := by
  obtain ⟨r1, h1, e1, ⟨fs, e2⟩, r2, h2, e3, v, rfl, rfl, s1, s2⟩ := h
  exact ⟨v, h1, h2, fs, e1, e2, e3, s1, s2⟩
def m47 (h : mS) : Bool := match h.1[(47 : Nat)]? with
  | some (.inr o) => Nat.beq o.1 11
  | _ => false
def mbothB (y1 y2 : Nat) (as : List Value) : Bool := match mcall 12 y1 (.ref 0 :: as) mh0 with
  | some (some (.int v), h1) => m47 h1 && (match mcall 12 y2 (.ref 47 :: as) h1 with
    | some (some (.int w), h2) => decide (v = w) && (Nat.ble h2.1.length 600000 && Nat.ble h2.2 7302250)
    | _ => false)
  | _ => false
theorem mbothB_ok {y1 y2 : Nat} {as : List Value} (h : mbothB y1 y2 as = true) : mBoth y1 y2 as := by
  unfold mbothB at h
  split at h
  · rename_i v h1 e1
    obtain ⟨k0, h⟩ := mand h
    unfold m47 at k0
    split at k0
    · rename_i o e0
      split at h
      · rename_i w h2 e2
        obtain ⟨k1, k2⟩ := mand h
        obtain ⟨k2, k3⟩ := mand k2
        have k1 := of_decide_eq_true k1
        subst k1
        obtain ⟨oc, fs⟩ := o
        have ho := mlen k0
        have ho : oc = 11 := ho
        subst ho
        exact ⟨v, h1, h2, fs, e1, e0, e2, Nat.le_of_ble_eq_true k2, Nat.le_of_ble_eq_true k3⟩
      · cases h
    · cases k0
  · cases h
theorem mE_tswO {cal : Nat → List Value → mS → Option (Option Value × mS)} {scr : Option (Nat × (Nat → Int32))} {nL : Nat} {tab : Nat → Option mI} {b : Nat} {s : mX} {P : Option Value → mS → Prop} {df lo hi : Int} {os : Array Int} {q : Nat × Nat × Nat × Nat × Nat} {x : Int32} {r : List Value} (ht : tab s.1 = some (.tableswitch df lo hi os, q)) (hst : s.2.2.1 = .int x :: r) (hc : x.toInt < lo ∨ hi < x.toInt) (h0 : 0 ≤ (s.1 : Int) + df) (h : mE cal scr nL tab b (((s.1 : Int) + df).toNat, s.2.1, r, s.2.2.2) P) : mE cal scr nL tab (b + 1) s P := by
  obtain ⟨r2, h', h3, h4⟩ := h
  refine ⟨r2, h', ?_, h4⟩
  obtain ⟨q1, q2, q3, q4, q5⟩ := q
  rw [mloop_eq, ht, hst]
  simp only [mstep, if_pos hc, msw, if_pos h0, mnx]
  exact h3
