/-! running the pure machine: blocks, and the rules of its symbolic runs -/
abbrev mX : Type := Nat × mL × List Value × mS
def msteps (cal : Nat → List Value → mS → Option (Option Value × mS)) (scr : Option (Nat × (Nat → Int32))) (nL : Nat) (tab : Nat → Option mI) : Nat → mX → Option mX
  | 0, s => some s
  | k + 1, (pc, lv, st, h) => match tab pc with
    | none => none
    | some x => match mstep scr nL pc lv st h x with
      | none => none
      | some (.inl s') => msteps cal scr nL tab k s'
      | some (.inr (.inl _)) => none
      | some (.inr (.inr (y, as, rest))) => match cal y as h with
        | none => none
        | some (r, h') => msteps cal scr nL tab k (pc + 3, lv, r.toList ++ rest, h')
theorem mloop_eq (cal : Nat → List Value → mS → Option (Option Value × mS)) (scr : Option (Nat × (Nat → Int32))) (nL : Nat) (tab : Nat → Option mI) (n pc : Nat) (lv : mL) (st : List Value) (h : mS) : mloop cal scr nL tab (n + 1) pc lv st h = (match tab pc with
    | none => none
    | some x => match mstep scr nL pc lv st h x with
      | none => none
      | some (.inl (pc', lv', st', h')) => mloop cal scr nL tab n pc' lv' st' h'
      | some (.inr (.inl r)) => some (r, h)
      | some (.inr (.inr (y, as, rest))) => match cal y as h with
        | none => none
        | some (r, h') => mloop cal scr nL tab n (pc + 3) lv (r.toList ++ rest) h') := rfl
theorem mloop_steps {cal : Nat → List Value → mS → Option (Option Value × mS)} {scr : Option (Nat × (Nat → Int32))} {nL : Nat} {tab : Nat → Option mI} : ∀ (k : Nat) (s : mX) (s' : mX), msteps cal scr nL tab k s = some s' → ∀ n, mloop cal scr nL tab (n + k) s.1 s.2.1 s.2.2.1 s.2.2.2 = mloop cal scr nL tab n s'.1 s'.2.1 s'.2.2.1 s'.2.2.2 := by
  intro k
  induction k with
  | zero => intro s s' h n; cases h; rfl
  | succ k ih =>
    intro s s' h n
    obtain ⟨pc, lv, st, hp⟩ := s
    unfold msteps at h
    show mloop cal scr nL tab (n + k + 1) pc lv st hp = _
    rw [mloop_eq]
    split at h
    · cases h
    · rename_i x hx
      split at h
      · cases h
      · rename_i s1 hs
        have := ih _ _ h n
        simp only [hs]
        exact this
      · cases h
      · rename_i y as rest hs
        split at h
        · cases h
        · rename_i r h1 hc
          have := ih _ _ h n
          simp only [hs, hc]
          exact this
/-- more fuel, the same end -/
theorem mloop_more {cal : Nat → List Value → mS → Option (Option Value × mS)} {scr : Option (Nat × (Nat → Int32))} {nL : Nat} {tab : Nat → Option mI} : ∀ (n pc : Nat) (lv : mL) (st : List Value) (h : mS) (q : Option Value × mS), mloop cal scr nL tab n pc lv st h = some q → mloop cal scr nL tab (n + 1) pc lv st h = some q := by
  intro n
  induction n with
  | zero => intro pc lv st h q hs; cases hs
  | succ n ih =>
    intro pc lv st h q hs
    rw [mloop_eq] at hs ⊢
    split at hs
    · cases hs
    · rename_i x hx
      split at hs
      · cases hs
      · rename_i hst
        exact ih _ _ _ _ _ hs
      · rename_i hst
        exact hs
      · rename_i hst
        split at hs
        · cases hs
        · rename_i hc
          exact ih _ _ _ _ _ hs
theorem mloop_le {cal : Nat → List Value → mS → Option (Option Value × mS)} {scr : Option (Nat × (Nat → Int32))} {nL : Nat} {tab : Nat → Option mI} {n m pc : Nat} {lv : mL} {st : List Value} {h : mS} {q : Option Value × mS} (hs : mloop cal scr nL tab n pc lv st h = some q) (hn : n ≤ m) : mloop cal scr nL tab m pc lv st h = some q := by
  induction m with
  | zero => rw [Nat.le_zero.mp hn] at hs; exact hs
  | succ m ih =>
    by_cases he : n = m + 1
    · subst he; exact hs
    · exact mloop_more _ _ _ _ _ _ (ih (by omega))
def mdC : DecidableEq mC := inferInstance
def mdLC : DecidableEq (List mC) := @instDecidableEqList mC mdC
def mdS : DecidableEq mS := @instDecidableEqProd (List mC) Nat mdLC inferInstance
def mdL : DecidableEq mL := inferInstance
def mdX : DecidableEq mX := @instDecidableEqProd Nat (mL × List Value × mS) inferInstance (@instDecidableEqProd mL (List Value × mS) mdL (@instDecidableEqProd (List Value) mS inferInstance mdS))
def mdO (a b : Option mX) : Decidable (a = b) := match a, b with
  | none, none => isTrue rfl
  | some x, some y => match mdX x y with
    | isTrue h => isTrue (by rw [h])
    | isFalse h => isFalse (fun q => h (Option.some.inj q))
  | none, some _ => isFalse (fun q => by cases q)
  | some _, none => isFalse (fun q => by cases q)
