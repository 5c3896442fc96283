/-! texts, purely: recursive descent (the reference) and operators that wait (the class) -/
section EX
variable {ν : Int32 → Int32}
abbrev PV : Type := Int32 × List Int32
def eDig (v : Int32) : List Int32 → PV
  | [] => (v, [])
  | b :: r => if isDg b then eDig (10 * v + b - 48) r else (v, b :: r)
def eOne (ν : Int32 → Int32) (any : List Int32 → PV) : List Int32 → PV
  | [] => (0, [])
  | b :: r => if b = 40 then ((any r).1, (any r).2.tail) else if isDg b then eDig (b - 48) r else (ν b, r)
/-- while an operator of ops is there: it, and a sub behind it -/
def eLoop (ops : Int32 → Bool) (app : Int32 → Int32 → Int32 → Int32) (sub : List Int32 → PV) : Nat → Int32 → List Int32 → PV
  | 0, v, s => (v, s)
  | _ + 1, v, [] => (v, [])
  | n + 1, v, b :: r => if ops b = true then eLoop ops app sub n (app b v (sub r).1) (sub r).2 else (v, b :: r)
def opP (b : Int32) : Bool := b == 42
def opS (b : Int32) : Bool := b == 43 || b == 45
def opA (b : Int32) : Bool := b == 38
def opO (b : Int32) : Bool := b == 124
def bool (p : Bool) : Int32 := if p = true then 1 else 0
/-- what a binary operator gives -/
def eApp (b v w : Int32) : Int32 := if b = 124 then bool (!(v == 0) || !(w == 0)) else if b = 38 then bool (!(v == 0) && !(w == 0)) else if b = 60 then bool (decide (v < w)) else if b = 61 then bool (v == w) else if b = 62 then bool (decide (w < v)) else if b = 43 then v + w else if b = 45 then v - w else v * w
def eNeg (v : Int32) : Int32 := if v = 0 then 1 else 0
def eNots : Nat → Int32 → Int32
  | 0, v => v
  | k + 1, v => eNeg (eNots k v)
def eProd (one : List Int32 → PV) (s : List Int32) : PV := eLoop opP eApp one (one s).2.length (one s).1 (one s).2
def eSum (one : List Int32 → PV) (s : List Int32) : PV := eLoop opS eApp (eProd one) (eProd one s).2.length (eProd one s).1 (eProd one s).2
def eCmp (one : List Int32 → PV) (s : List Int32) : PV := match (eSum one s).2 with
  | [] => ((eSum one s).1, [])
  | b :: r => if isRl b then (eApp b (eSum one s).1 (eSum one r).1, (eSum one r).2) else ((eSum one s).1, b :: r)
/-- the nots ahead -/
def eBang : List Int32 → Nat × List Int32
  | [] => (0, [])
  | b :: r => if b = 33 then ((eBang r).1 + 1, (eBang r).2) else (0, b :: r)
def eNot (one : List Int32 → PV) (s : List Int32) : PV := (eNots (eBang s).1 (eCmp one (eBang s).2).1, (eCmp one (eBang s).2).2)
def eAll (one : List Int32 → PV) (s : List Int32) : PV := eLoop opA eApp (eNot one) (eNot one s).2.length (eNot one s).1 (eNot one s).2
def eAny (one : List Int32 → PV) (s : List Int32) : PV := eLoop opO eApp (eAll one) (eAll one s).2.length (eAll one s).1 (eAll one s).2
/-- d parentheses deep at most -/
def eAt (ν : Int32 → Int32) : Nat → List Int32 → PV
  | 0, s => (0, s)
  | d + 1, s => eAny (eOne ν (eAt ν d)) s
/-! the parse does not run beyond its text -/
def fOne (any : List Int32 → PV) (fany : List Int32 → Prop) : List Int32 → Prop
  | [] => False
  | b :: r => b = 40 → (fany r ∧ (any r).2 ≠ [] ∧ (any r).2 <:+ r)
def fLoop (ops : Int32 → Bool) (sub : List Int32 → PV) (fsub : List Int32 → Prop) : Nat → List Int32 → Prop
  | 0, _ => True
  | _ + 1, [] => True
  | n + 1, b :: r => ops b = true → (fsub r ∧ (sub r).2 <:+ r ∧ fLoop ops sub fsub n (sub r).2)
def fProd (one : List Int32 → PV) (fone : List Int32 → Prop) (s : List Int32) : Prop := (fone s ∧ (one s).2 <:+ s) ∧ fLoop opP one fone (one s).2.length (one s).2
def fSum (one : List Int32 → PV) (fone : List Int32 → Prop) (s : List Int32) : Prop := (fProd one fone s ∧ (eProd one s).2 <:+ s) ∧ fLoop opS (eProd one) (fProd one fone) (eProd one s).2.length (eProd one s).2
def fCmp (one : List Int32 → PV) (fone : List Int32 → Prop) (s : List Int32) : Prop := (fSum one fone s ∧ (eSum one s).2 <:+ s) ∧ ∀ b r, (eSum one s).2 = b :: r → isRl b → (fSum one fone r ∧ (eSum one r).2 <:+ r)
def fNot (one : List Int32 → PV) (fone : List Int32 → Prop) (s : List Int32) : Prop := fCmp one fone (eBang s).2 ∧ (eCmp one (eBang s).2).2 <:+ (eBang s).2
def fAll (one : List Int32 → PV) (fone : List Int32 → Prop) (s : List Int32) : Prop := (fNot one fone s ∧ (eNot one s).2 <:+ s) ∧ fLoop opA (eNot one) (fNot one fone) (eNot one s).2.length (eNot one s).2
def fAny (one : List Int32 → PV) (fone : List Int32 → Prop) (s : List Int32) : Prop := (fAll one fone s ∧ (eAll one s).2 <:+ s) ∧ fLoop opO (eAll one) (fAll one fone) (eAll one s).2.length (eAll one s).2
def fAt (ν : Int32 → Int32) : Nat → List Int32 → Prop
  | 0, _ => False
  | d + 1, s => fAny (eOne ν (eAt ν d)) (fOne (eAt ν d) (fAt ν d)) s
/-! the class -/
abbrev RSt : Type := PS × List Int32 × List Int32
def sg (b : Int32) : Nat := if b = 124 then 1 else if b = 38 then 2 else if b = 33 then 3 else if b = 60 ∨ b = 61 ∨ b = 62 then 4 else if b = 43 ∨ b = 45 then 5 else if b = 42 then 6 else 0
def flsh (L : Nat) : List Int32 → List Int32 → List Int32 × List Int32
  | P, [] => (P, [])
  | P, o :: W => if L ≤ sg o then flsh L (P ++ [2000 + o]) W else (P, o :: W)
def setLast (P : List Int32) (f : Int32 → Int32) : List Int32 := match P.getLast? with
  | none => P
  | some x => P.dropLast ++ [f x]
/-- a byte: steps and operators that wait; the flags are psSt's -/
def rdPW (b : Int32) (s : PS) (P W : List Int32) : List Int32 × List Int32 := if s.2.2.2.1 = 0 then (if isDg b then (setLast P (fun x => 10 * x + (b - 48)), W) else if b = 41 then ((flsh 1 P W).1, (flsh 1 P W).2.tail) else ((flsh (sg b) P W).1, b :: (flsh (sg b) P W).2)) else (if isDg b then (P ++ [b - 48], W) else if ¬ midx b < 0 then (P ++ [1000 + midx b], W) else (P, b :: W))
def rdB (b : Int32) (σ : RSt) : Option RSt := (psSt b σ.1).map (fun s' => (s', rdPW b σ.1 σ.2.1 σ.2.2))
def rdS : List Int32 → RSt → Option RSt
  | [], σ => some σ
  | b :: r, σ => (rdB b σ).bind (rdS r)
theorem rdS_app {u w : List Int32} : ∀ {σ : RSt}, rdS (u ++ w) σ = (rdS u σ).bind (rdS w) := by
  induction u with
  | nil => intro σ; rfl
  | cons b u ih =>
    intro σ
    show (rdB b σ).bind (rdS (u ++ w)) = ((rdB b σ).bind (rdS u)).bind (rdS w)
    cases rdB b σ with
    | none => rfl
    | some τ => exact ih
/-- what is left is read to its end without a fault -/
def acc (s : List Int32) (σ : RSt) : Prop := ∃ τ, rdS s σ = some τ ∧ τ.1.2.2.2.1 = 0 ∧ τ.1.1 ≤ 0
theorem acc_cons {b : Int32} {r : List Int32} {σ : RSt} (h : acc (b :: r) σ) : ∃ σ', rdB b σ = some σ' ∧ acc r σ' := by
  obtain ⟨τ, h1, h2⟩ := h
  have h1 : (rdB b σ).bind (rdS r) = some τ := h1
  cases hb : rdB b σ with
  | none => rw [hb] at h1; cases h1
  | some σ' =>
    rw [hb] at h1
    exact ⟨σ', rfl, τ, h1, h2⟩
/-- steps, run -/
def pStp (νi : Int32 → Int32) (st : Int32) (V : List Int32) : List Int32 := if st < 2000 then (if st < 1000 then st else νi (st - 1000)) :: V else if st = 2033 then (match V with | x :: V' => eNeg x :: V' | [] => []) else (match V with | y :: x :: V' => eApp (st - 2000) x y :: V' | V => V)
def pRun (νi : Int32 → Int32) : List Int32 → List Int32 → List Int32
  | [], V => V
  | st :: P, V => pRun νi P (pStp νi st V)
theorem pRun_app {νi : Int32 → Int32} {P Q : List Int32} : ∀ {V : List Int32}, pRun νi (P ++ Q) V = pRun νi Q (pRun νi P V) := by
  induction P with
  | nil => intro V; rfl
  | cons st P ih => intro V; exact ih
/-- the marks below depth m are as they were -/
def kb (m : Nat) (σ τ : RSt) : Prop := ∀ k : Nat, k < m → (τ.1.2.2.1 &&& bt k = 0 ↔ σ.1.2.2.1 &&& bt k = 0)
def nxt (L : Nat) (s : List Int32) : Prop := ∀ b r, s = b :: r → ¬ isDg b ∧ (b = 41 ∨ (0 < sg b ∧ sg b < L ∧ ¬ b = 33))
/-- an expression of strength L at least has been read, its value is v -/
def Res (νi : Int32 → Int32) (L Ln m : Nat) (v : Int32) (s s' : List Int32) (σ τ : RSt) : Prop := (∃ u, u ≠ [] ∧ s = u ++ s' ∧ rdS u σ = some τ) ∧ acc s' τ ∧ τ.1.2.2.2.1 = 0 ∧ τ.1.1 = σ.1.1 ∧ kb m σ τ ∧ (∃ W2 C, τ.2.2 = W2 ++ σ.2.2 ∧ (∀ o ∈ W2, L ≤ sg o) ∧ τ.2.1 ++ W2.map (fun o => 2000 + o) = σ.2.1 ++ C ∧ ∀ V, pRun νi C V = v :: V) ∧ nxt Ln s'
def Lvl (νi : Int32 → Int32) (L m : Nat) (e : List Int32 → PV) (f : List Int32 → Prop) (s : List Int32) (σ : RSt) : Prop := ∃ s' τ, Res νi L L m (e s).1 s s' σ τ ∧ (e s).2 = s' ∧ f s
/-- what may not be flushed by L -/
def ctx (L : Nat) (W : List Int32) : Prop := ∀ o W', W = o :: W' → sg o < L
theorem fl_ctx {L : Nat} {P W : List Int32} (h : ctx L W) : flsh L P W = (P, W) := by
  cases W with
  | nil => rfl
  | cons o W =>
    show (if L ≤ sg o then flsh L (P ++ [2000 + o]) W else (P, o :: W)) = _
    rw [if_neg (by have := h o W rfl; omega)]
theorem fl_all {L : Nat} {W : List Int32} (h : ctx L W) : ∀ {W2 P : List Int32}, (∀ o ∈ W2, L ≤ sg o) → flsh L P (W2 ++ W) = (P ++ W2.map (fun o => 2000 + o), W) := by
  intro W2
  induction W2 with
  | nil => intro P _; rw [List.nil_append, fl_ctx h]; simp
  | cons o W2 ih =>
    intro P hw
    show (if L ≤ sg o then flsh L (P ++ [2000 + o]) (W2 ++ W) else _) = _
    rw [if_pos (hw o List.mem_cons_self), ih (fun o' h' => hw o' (List.mem_cons_of_mem _ h'))]
    simp
theorem kb.refl {m : Nat} {σ : RSt} : kb m σ σ := fun _ _ => Iff.rfl
theorem kb.trans {m : Nat} {σ τ ρ' : RSt} (a : kb m σ τ) (b : kb m τ ρ') : kb m σ ρ' := fun k hk => (b k hk).trans (a k hk)
theorem kb.le {m m' : Nat} {σ τ : RSt} (a : kb m σ τ) (h : m' ≤ m) : kb m' σ τ := fun k hk => a k (by omega)
theorem rdB_eq {b : Int32} {σ σ' : RSt} (h : rdB b σ = some σ') : psSt b σ.1 = some σ'.1 ∧ σ'.2 = rdPW b σ.1 σ.2.1 σ.2.2 := by
  unfold rdB at h
  cases hp : psSt b σ.1 with
  | none => rw [hp] at h; cases h
  | some s' =>
    rw [hp] at h
    cases h
    exact ⟨rfl, rfl⟩
theorem rdS_one {b : Int32} {σ σ' : RSt} (h : rdB b σ = some σ') : rdS [b] σ = some σ' := by
  show (rdB b σ).bind (rdS []) = _
  rw [h]
  rfl
theorem rdS_two {u w : List Int32} {σ τ ρ' : RSt} (a : rdS u σ = some τ) (b : rdS w τ = some ρ') : rdS (u ++ w) σ = some ρ' := by
  rw [rdS_app, a]
  exact b
/-- behind an operand: what may come -/
theorem be_next {b : Int32} {τ : RSt} (h : (rdB b τ).isSome = true) (hw : τ.1.2.2.2.1 = 0) (hd : ¬ isDg b) : b = 41 ∨ (0 < sg b ∧ ¬ b = 33) := by
  obtain ⟨σ', hb⟩ := Option.isSome_iff_exists.mp h
  obtain ⟨h1, -⟩ := rdB_eq hb
  unfold psSt at h1
  rw [if_pos hw] at h1
  unfold psBe at h1
  rw [if_neg hd] at h1
  by_cases e41 : b = 41
  · exact Or.inl e41
  · rw [if_neg e41] at h1
    right
    by_cases hB : isBo b
    · rcases hB with e | e <;> subst e <;> exact ⟨by decide, by decide⟩
    · rw [if_neg hB] at h1
      by_cases hR : isRl b
      · rcases hR with e | e | e <;> subst e <;> exact ⟨by decide, by decide⟩
      · rw [if_neg hR] at h1
        by_cases hA : b = 43 ∨ b = 45 ∨ b = 42
        · rcases hA with e | e | e <;> subst e <;> exact ⟨by decide, by decide⟩
        · rw [if_neg hA] at h1
          cases h1
theorem sg_cases {b : Int32} (h : 0 < sg b) : b = 124 ∨ b = 38 ∨ b = 33 ∨ (b = 60 ∨ b = 61 ∨ b = 62) ∨ (b = 43 ∨ b = 45) ∨ b = 42 := by
  unfold sg at h
  by_cases h1 : b = 124
  · exact Or.inl h1
  · rw [if_neg h1] at h
    by_cases h2 : b = 38
    · exact Or.inr (Or.inl h2)
    · rw [if_neg h2] at h
      by_cases h3 : b = 33
      · exact Or.inr (Or.inr (Or.inl h3))
      · rw [if_neg h3] at h
        by_cases h4 : b = 60 ∨ b = 61 ∨ b = 62
        · exact Or.inr (Or.inr (Or.inr (Or.inl h4)))
        · rw [if_neg h4] at h
          by_cases h5 : b = 43 ∨ b = 45
          · exact Or.inr (Or.inr (Or.inr (Or.inr (Or.inl h5))))
          · rw [if_neg h5] at h
            by_cases h6 : b = 42
            · exact Or.inr (Or.inr (Or.inr (Or.inr (Or.inr h6))))
            · rw [if_neg h6] at h
              exact absurd h (by decide)
theorem acc_nil {σ : RSt} (h : acc [] σ) : σ.1.2.2.2.1 = 0 ∧ σ.1.1 ≤ 0 := by
  obtain ⟨τ, h1, h2⟩ := h
  have h1 : some σ = some τ := h1
  cases h1
  exact h2
theorem pow_dig {x b dg : Int32} (hd : isDg b) (h0 : 0 ≤ x.toInt) (h1 : x.toInt < 100) : (10 * x + b - 48).toInt = 10 * x.toInt + (b.toInt - 48) ∧ 10 * x + b - 48 = 10 * x + (b - 48) := by
  have e48 : (48 : Int32).toInt = 48 := by decide
  have e10 : (10 : Int32).toInt = 10 := by decide
  obtain ⟨d0, d1⟩ := hd
  have m1 : (10 * x).toInt = 10 * x.toInt := by rw [mul_id (by rw [e10]; omega) (by rw [e10]; omega), e10]
  have m2 : (10 * x + b).toInt = 10 * x.toInt + b.toInt := by rw [add_id (by omega) (by omega), m1]
  have m3 : (10 * x + b - 48).toInt = 10 * x.toInt + (b.toInt - 48) := by rw [sub_id (by omega) (by omega), m2, e48]; omega
  refine ⟨m3, Int32.toInt_inj.mp ?_⟩
  have n1 : (b - 48).toInt = b.toInt - 48 := by rw [sub_id (by omega) (by omega), e48]
  rw [m3, add_id (by omega) (by omega), m1, n1]
/-- a number: further digits -/
theorem lvDig {P0 : List Int32} : ∀ (s : List Int32) (σ : RSt) (x : Int32), σ.1.2.2.2.1 = 0 → σ.2.1 = P0 ++ [x] → acc s σ → (0 ≤ x.toInt ∧ (σ.1.2.1 = 1 ∧ x.toInt < 10 ∨ σ.1.2.1 = 2 ∧ x.toInt < 100 ∨ σ.1.2.1 = 3 ∧ x.toInt < 1000)) → ∃ u s' τ x', s = u ++ s' ∧ rdS u σ = some τ ∧ acc s' τ ∧ eDig x s = (x', s') ∧ τ.2.1 = P0 ++ [x'] ∧ τ.2.2 = σ.2.2 ∧ (τ.1.2.2.2.1 = 0 ∧ τ.1.1 = σ.1.1 ∧ τ.1.2.2.1 = σ.1.2.2.1) ∧ (0 ≤ x'.toInt ∧ x'.toInt < 1000) ∧ ∀ b r, s' = b :: r → ¬ isDg b := by
  intro s
  induction s with
  | nil =>
    intro σ x hw hP ha hx
    exact ⟨[], [], σ, x, rfl, rfl, ha, rfl, hP, rfl, ⟨hw, rfl, rfl⟩, ⟨hx.1, by rcases hx.2 with ⟨-, q⟩ | ⟨-, q⟩ | ⟨-, q⟩ <;> omega⟩, fun b r e => by cases e⟩
  | cons b r ih =>
    intro σ x hw hP ha hx
    by_cases hd : isDg b
    · obtain ⟨σ1, h1, h2⟩ := acc_cons ha
      obtain ⟨h3, h4⟩ := rdB_eq h1
      unfold psSt at h3
      rw [if_pos hw] at h3
      unfold psBe at h3
      rw [if_pos hd] at h3
      by_cases h03 : σ.1.2.1 = 0 ∨ σ.1.2.1 = 3
      · rw [if_pos h03] at h3
        cases h3
      · rw [if_neg h03] at h3
        have h3 : some (σ.1.1, σ.1.2.1 + 1, σ.1.2.2.1, σ.1.2.2.2.1, σ.1.2.2.2.2) = some σ1.1 := h3
        have h3 := (Option.some.inj h3).symm
        have hx100 : x.toInt < 100 := by
          rcases hx.2 with ⟨-, q⟩ | ⟨-, q⟩ | ⟨q, -⟩
          · omega
          · omega
          · exact absurd (Or.inr q) h03
        obtain ⟨v1, v2⟩ := pow_dig hd hx.1 hx100 (dg := 0)
        have hPW : σ1.2 = (P0 ++ [10 * x + b - 48], σ.2.2) := by
          rw [h4]
          unfold rdPW
          rw [if_pos hw, if_pos hd, hP]
          unfold setLast
          rw [List.getLast?_append]
          simp only [List.getLast?_singleton, Option.some_or, List.dropLast_concat]
          rw [v2]
        obtain ⟨d0, d1⟩ := hd
        have hx1 : 0 ≤ (10 * x + b - 48).toInt ∧ (σ1.1.2.1 = 1 ∧ (10 * x + b - 48).toInt < 10 ∨ σ1.1.2.1 = 2 ∧ (10 * x + b - 48).toInt < 100 ∨ σ1.1.2.1 = 3 ∧ (10 * x + b - 48).toInt < 1000) := by
          rw [h3]
          refine ⟨by have := hx.1; omega, ?_⟩
          rcases hx.2 with ⟨q1, q⟩ | ⟨q1, q⟩ | ⟨q, -⟩
          · exact Or.inr (Or.inl ⟨by show σ.1.2.1 + 1 = 2; rw [q1]; rfl, by omega⟩)
          · exact Or.inr (Or.inr ⟨by show σ.1.2.1 + 1 = 3; rw [q1]; rfl, by omega⟩)
          · exact absurd (Or.inr q) h03
        obtain ⟨u, s', τ, x', g1, g2, g3, g4, g5, g6, ⟨g7, g8, g9⟩, g10, g11⟩ := ih σ1 (10 * x + b - 48) (by rw [h3]; exact hw) (by rw [hPW]) h2 hx1
        refine ⟨b :: u, s', τ, x', by rw [g1]; rfl, ?_, g3, ?_, g5, by rw [g6, hPW], ⟨g7, by rw [g8, h3], by rw [g9, h3]⟩, g10, g11⟩
        · show (rdB b σ).bind (rdS u) = some τ
          rw [h1]
          exact g2
        · show (if isDg b then eDig (10 * x + b - 48) r else (x, b :: r)) = _
          rw [if_pos ⟨d0, d1⟩]
          exact g4
    · refine ⟨[], b :: r, σ, x, rfl, rfl, ha, ?_, hP, rfl, ⟨hw, rfl, rfl⟩, ⟨hx.1, by rcases hx.2 with ⟨-, q⟩ | ⟨-, q⟩ | ⟨-, q⟩ <;> omega⟩, fun b' r' e => by cases e; exact hd⟩
      show (if isDg b then eDig (10 * x + b - 48) r else (x, b :: r)) = _
      rw [if_neg hd]
end EX
