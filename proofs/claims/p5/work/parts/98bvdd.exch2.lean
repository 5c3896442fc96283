theorem Q_iret {cal : Nat → List Value → mS → Option (Option Value × mS)} {nL : Nat} {tab : Nat → Option mI} {nn pc len q1 q2 q3 q4 : Nat} {lv : mL} {st : List Value} {h : mS} {P : Option Value → mS → Prop} (ht : tab pc = some (.ireturn, len, q1, q2, q3, q4)) (k : ∀ r, P r h) : mPq nn cal nL tab (pc, lv, st, h) P := by
  refine Q_step ht (fun o ho => ?_)
  match o, ho with
  | .inr (.inl r), _ => exact k r
  | .inl q, ho =>
    exfalso
    simp only [mstep] at ho
    split at ho <;> cases ho
  | .inr (.inr q), ho =>
    exfalso
    simp only [mstep] at ho
    split at ho <;> cases ho
set_option maxRecDepth 10000 in
theorem w_worth {d : Nat} {as : List Value} {h h' : mS} {r : Option Value} (e : mcall d 39 as h = some (r, h')) : h' = h := by
  cases d with
  | zero => cases e
  | succ d =>
    refine Q_call (P := fun r h' => h' = h) rfl e (fun ha => ?_)
    refine Q_ico rfl ?_
    refine Q_ald rfl (fun v0 q0 => ?_)
    refine Q_gf rfl rfl (fun a fs v ea ec ev => ?_)
    refine Q_bin rfl rfl (fun x y _ _ => ?_)
    refine Q_ico rfl ?_
    refine Q_bin rfl rfl (fun x y _ _ => ?_)
    exact Q_iret rfl (fun r => rfl)
/-- strips' cells are as they were -/
def K7 (h h' : List mC) : Prop := ∀ (c : Nat) (fs : List Value), h[c]? = some (.inr (7, fs)) → h'[c]? = some (.inr (7, fs))
theorem A7_set {l : List mC} {a : Nat} {fs : List Value} (la : a < l.length) {c : Nat} : A7 (l.set a (.inr (4, fs))) c = if c = a then fs[7]? else A7 l c := by
  unfold A7
  by_cases hc : c = a
  · subst hc
    rw [if_pos rfl, List.getElem?_set_self la]
    rfl
  · rw [if_neg hc, List.getElem?_set_ne (fun e => hc e.symm)]
set_option maxRecDepth 10000 in
theorem w_gain {d : Nat} {as : List Value} {h h' : mS} {r : Option Value} (e : mcall (d + 1) 18 as h = some (r, h')) : ∃ k : Nat, as[0]? = some (.ref k) ∧ A7 h'.1 = up7 (A7 h.1) k 1 ∧ K7 h.1 h'.1 := by
  refine Q_call (P := fun r h' => ∃ k : Nat, as[0]? = some (.ref k) ∧ A7 h'.1 = up7 (A7 h.1) k 1 ∧ K7 h.1 h'.1) rfl e (fun ha => ?_)
  obtain ⟨g0, g1⟩ := lva_get ha
  generalize lv_args 0 as = lv at g0 g1
  refine Q_ald rfl (fun v0 q0 => ?_)
  refine Q_dup rfl ?_
  refine Q_gf rfl rfl (fun a fs v ea ec ev => ?_)
  refine Q_ico rfl ?_
  refine Q_bin rfl rfl (fun x one eo ex => ?_)
  cases eo
  subst ex
  refine Q_pf rfl (fun a' fs' ea' ec' hl => ?_)
  subst ea
  cases ea'
  rw [ec] at ec'
  cases ec'
  have la : a < h.1.length := (List.getElem?_eq_some_iff.mp ec).1
  refine Q_ald rfl (fun v0 q0' => ?_)
  refine Q_dup rfl ?_
  refine Q_gf rfl rfl (fun a' fs1 v1 ea' ec1 ev1 => ?_)
  have q0' : mget lv 0 = some v0 := q0'
  have q0 : mget lv 0 = some (.ref a) := q0
  rw [q0] at q0'
  cases q0'
  cases ea'
  have ec1' : (h.1.set a (.inr (4, fs.set 7 (.int (x + Int32.ofInt 1)))))[a]? = some (.inr (4, fs1)) := ec1
  rw [List.getElem?_set_self la] at ec1'
  cases ec1'
  refine Q_ald rfl (fun v2 _ => ?_)
  refine Q_cv [] v2 _ rfl rfl rfl rfl (fun r2 h2 e2 => ?_)
  have e2 := w_worth e2
  subst e2
  cases r2 with
  | none =>
    refine Q_bin rfl rfl (fun x1 y1 _ ey => ?_)
    cases ey
  | some r2 =>
  refine Q_bin rfl rfl (fun x1 y1 _ _ => ?_)
  refine Q_pf rfl (fun a' fs2 ea' ec2 hl2 => ?_)
  cases ea'
  have ec2' : (h.1.set a (.inr (4, fs.set 7 (.int (x + Int32.ofInt 1)))))[a]? = some (.inr (4, fs2)) := ec2
  rw [List.getElem?_set_self la] at ec2'
  cases ec2'
  refine Q_ret rfl (fun r => ⟨a, ?_, ?_, ?_⟩)
  · rw [← g0]
    exact q0
  · dsimp only
    rw [List.set_set]
    funext c
    rw [A7_set la]
    unfold up7
    by_cases hc : c = a
    · rw [if_pos hc, if_pos hc, List.getElem?_set_ne (by decide), List.getElem?_set_self hl]
      have : A7 h.1 a = some (.int x) := by unfold A7; rw [ec]; exact ev
      rw [this]
      rfl
    · rw [if_neg hc, if_neg hc]
  · intro c fs3 hc
    dsimp only
    rw [List.set_set, List.getElem?_set_ne (fun e => by subst e; rw [ec] at hc; cases hc)]
    exact hc
set_option maxRecDepth 10000 in
theorem w_lose {d : Nat} {as : List Value} {h h' : mS} {r : Option Value} (e : mcall (d + 1) 19 as h = some (r, h')) : ∃ k : Nat, as[0]? = some (.ref k) ∧ A7 h'.1 = up7 (A7 h.1) k (-1) ∧ K7 h.1 h'.1 := by
  refine Q_call (P := fun r h' => ∃ k : Nat, as[0]? = some (.ref k) ∧ A7 h'.1 = up7 (A7 h.1) k (-1) ∧ K7 h.1 h'.1) rfl e (fun ha => ?_)
  obtain ⟨g0, g1⟩ := lva_get ha
  generalize lv_args 0 as = lv at g0 g1
  refine Q_ald rfl (fun v0 q0 => ?_)
  refine Q_dup rfl ?_
  refine Q_gf rfl rfl (fun a fs v ea ec ev => ?_)
  refine Q_ico rfl ?_
  refine Q_bin rfl rfl (fun x one eo ex => ?_)
  cases eo
  subst ex
  refine Q_pf rfl (fun a' fs' ea' ec' hl => ?_)
  subst ea
  cases ea'
  rw [ec] at ec'
  cases ec'
  have la : a < h.1.length := (List.getElem?_eq_some_iff.mp ec).1
  refine Q_ald rfl (fun v0 q0' => ?_)
  refine Q_dup rfl ?_
  refine Q_gf rfl rfl (fun a' fs1 v1 ea' ec1 ev1 => ?_)
  have q0' : mget lv 0 = some v0 := q0'
  have q0 : mget lv 0 = some (.ref a) := q0
  rw [q0] at q0'
  cases q0'
  cases ea'
  have ec1' : (h.1.set a (.inr (4, fs.set 7 (.int (x - Int32.ofInt 1)))))[a]? = some (.inr (4, fs1)) := ec1
  rw [List.getElem?_set_self la] at ec1'
  cases ec1'
  refine Q_ald rfl (fun v2 _ => ?_)
  refine Q_cv [] v2 _ rfl rfl rfl rfl (fun r2 h2 e2 => ?_)
  have e2 := w_worth e2
  subst e2
  cases r2 with
  | none =>
    refine Q_bin rfl rfl (fun x1 y1 _ ey => ?_)
    cases ey
  | some r2 =>
  refine Q_bin rfl rfl (fun x1 y1 _ _ => ?_)
  refine Q_pf rfl (fun a' fs2 ea' ec2 hl2 => ?_)
  cases ea'
  have ec2' : (h.1.set a (.inr (4, fs.set 7 (.int (x - Int32.ofInt 1)))))[a]? = some (.inr (4, fs2)) := ec2
  rw [List.getElem?_set_self la] at ec2'
  cases ec2'
  refine Q_ret rfl (fun r => ⟨a, ?_, ?_, ?_⟩)
  · rw [← g0]
    exact q0
  · dsimp only
    rw [List.set_set]
    funext c
    rw [A7_set la]
    unfold up7
    by_cases hc : c = a
    · rw [if_pos hc, if_pos hc, List.getElem?_set_ne (by decide), List.getElem?_set_self hl]
      have : A7 h.1 a = some (.int x) := by unfold A7; rw [ec]; exact ev
      rw [this]
      show some (Value.int (x - 1)) = some (.int (x + -1)); rw [Int32.sub_eq_add_neg]
    · rw [if_neg hc, if_neg hc]
  · intro c fs3 hc
    dsimp only
    rw [List.set_set, List.getElem?_set_ne (fun e => by subst e; rw [ec] at hc; cases hc)]
    exact hc
