theorem lva_all : ∀ (as : List Value) (n : Nat), as.all mone = true → ∀ q ∈ lv_args n as, mone q.2 = true := by
  intro as
  induction as with
  | nil => intro n _ q hq; cases hq
  | cons v as ih =>
    intro n ha q hq
    obtain ⟨a1, a2⟩ := Bool.and_eq_true_iff.mp (by rw [List.all_cons] at ha; exact ha)
    unfold lv_args at hq
    rcases List.mem_cons.mp hq with rfl | hq
    · exact a1
    · exact ih _ a2 q hq
theorem mget_one {lv : mL} (hl : ∀ q ∈ lv, mone q.2 = true) (j : Nat) (w : Value) (e : mget lv j = some w) : mone w = true := by
  unfold mget at e
  cases hf : lv.find? (fun q => Nat.beq q.1 j) with
  | none => rw [hf] at e; cases e
  | some q =>
    rw [hf] at e
    cases e
    exact hl q (List.mem_of_find?_eq_some hf)
theorem lva_mone {as : List Value} (ha : as.all mone = true) (j : Nat) (w : Value) (e : mget (lv_args 0 as) j = some w) : mone w = true := mget_one (lva_all as 0 ha) j w e
theorem A7_set7 {l : List mC} {a : Nat} {fs fs0 : List Value} (h0 : l[a]? = some (.inr (7, fs0))) : A7 (l.set a (.inr (7, fs))) = A7 l := by
  have la : a < l.length := (List.getElem?_eq_some_iff.mp h0).1
  funext c
  unfold A7
  by_cases hc : c = a
  · subst hc
    rw [List.getElem?_set_self la, h0]
    rfl
  · rw [List.getElem?_set_ne (fun e => hc e.symm)]
/-- strip a goes over to the house of cell b -/
def gvP (as : List Value) (h h' : mS) : Prop := ∃ (a k b : Nat) (fs : List Value), as[0]? = some (.ref a) ∧ h.1[a]? = some (.inr (7, fs)) ∧ fs[5]? = some (.ref k) ∧ as[1]? = some (.ref b) ∧ A7 h'.1 = up7 (up7 (A7 h.1) k (-1)) b 1 ∧ (∀ (c : Nat) (fc : List Value), c ≠ a → h.1[c]? = some (.inr (7, fc)) → h'.1[c]? = some (.inr (7, fc))) ∧ h'.1[a]? = some (.inr (7, fs.set 5 (.ref b)))
set_option maxRecDepth 10000 in
theorem w_give {d : Nat} {as : List Value} {h h' : mS} {r : Option Value} (e : mcall (d + 2) 40 as h = some (r, h')) : gvP as h h' := by
  refine Q_call (P := fun r h' => gvP as h h') rfl e (fun ha => ?_)
  obtain ⟨g0, g1⟩ := lva_get ha
  generalize lv_args 0 as = lv at g0 g1
  refine Q_ald rfl (fun v0 q0 => ?_)
  refine Q_gf rfl rfl (fun a fs v ea ec ev => ?_)
  subst ea
  have q0 : mget lv 0 = some (.ref a) := q0
  refine Q_ald rfl (fun v1 q1 => ?_)
  refine Q_cv [v1] v [] rfl rfl rfl rfl (fun r1 h1 e1 => ?_)
  obtain ⟨k, k1, k2, k3⟩ := w_lose e1
  cases k1
  refine Q_ald rfl (fun v2 q2 => ?_)
  refine Q_ald rfl (fun v3 q3 => ?_)
  have q2 : mget lv 0 = some v2 := q2
  rw [q0] at q2
  cases q2
  refine Q_pf rfl (fun a' fs' ea' ec' hl => ?_)
  cases ea'
  have h1a := k3 a fs ec
  rw [h1a] at ec'
  cases ec'
  have la : a < h1.1.length := (List.getElem?_eq_some_iff.mp h1a).1
  refine Q_ald rfl (fun v4 q4 => ?_)
  have q3 : mget lv 1 = some v3 := q3
  have q4 : mget lv 1 = some v4 := q4
  rw [q3] at q4
  cases q4
  refine Q_ald rfl (fun v5 q5 => ?_)
  refine Q_cv [v5] v3 _ rfl rfl rfl rfl (fun r2 h2 e2 => ?_)
  obtain ⟨b, b1, b2, b3⟩ := w_gain e2
  cases b1
  refine Q_ret rfl (fun r => ⟨a, k, b, fs, ?_, ec, ev, ?_, ?_, ?_, ?_⟩)
  · rw [← g0]; exact q0
  · rw [← g1]; exact q3
  · rw [b2]
    dsimp only
    rw [A7_set7 h1a, k2]
  · intro c fc hc hcc
    refine b3 c fc ?_
    dsimp only
    rw [List.getElem?_set_ne (fun e => hc e.symm)]
    exact k3 c fc hcc
  · refine b3 a _ ?_
    dsimp only
    rw [List.getElem?_set_self la]
set_option maxRecDepth 10000 in
/-- the exchange leaves every house's number of strips -/
theorem w_exchange {d : Nat} {as : List Value} {h h' : mS} {r : Option Value} (e : mcall (d + 3) 98 as h = some (r, h')) : A7 h'.1 = A7 h.1 := by
  refine Q_call (P := fun r h' => A7 h'.1 = A7 h.1) rfl e (fun ha => ?_)
  obtain ⟨g0, g1⟩ := lva_get ha
  have gm := lva_mone ha
  generalize lv_args 0 as = lv at g0 g1 gm
  refine Q_ald rfl (fun v0 q0 => ?_)
  refine Q_gf rfl rfl (fun a fs v ea ec ev => ?_)
  subst ea
  have q0 : mget lv 0 = some (.ref a) := q0
  refine Q_ast rfl ?_
  refine Q_ald rfl (fun v1 q1 => ?_)
  have q1 : mget (mput lv 2 v) 0 = some v1 := q1
  rw [mget_putN (by decide) (gm 0), q0] at q1
  cases q1
  refine Q_ald rfl (fun v2 q2 => ?_)
  have q2' : mget (mput lv 2 v) 1 = some v2 := q2
  rw [mget_putN (by decide) (gm 1)] at q2'
  refine Q_gf rfl rfl (fun b fb vb eb ecb evb => ?_)
  subst eb
  refine Q_cv [vb] (.ref a) [] rfl rfl rfl rfl (fun r1 h1 e1 => ?_)
  obtain ⟨a', k, b', fs', p1, p2, p3, p4, p5, p6, p7⟩ := w_give e1
  cases p1
  cases p4
  rw [ec] at p2
  cases p2
  rw [ev] at p3
  cases p3
  refine Q_ald rfl (fun v3 q3 => ?_)
  have q3 : mget (mput lv 2 (.ref k)) 1 = some v3 := q3
  rw [mget_putN (by decide) (gm 1), q2'] at q3
  cases q3
  refine Q_ald rfl (fun v4 q4 => ?_)
  have q4 : mget (mput lv 2 (.ref k)) 2 = some v4 := q4
  rw [mget_self] at q4
  cases q4
  refine Q_cv [.ref k] (.ref b) _ rfl rfl rfl rfl (fun r2 h2 e2 => ?_)
  obtain ⟨a2, k2, b2, fs2, s1, s2, s3, s4, s5, s6, s7⟩ := w_give e2
  cases s1
  cases s4
  refine Q_ret rfl (fun r => ?_)
  by_cases hab : b = a
  · subst hab
    rw [ec] at ecb
    cases ecb
    rw [ev] at evb
    cases evb
    rw [p7] at s2
    cases s2
    have hl : 5 < fs.length := (List.getElem?_eq_some_iff.mp ev).1
    rw [List.getElem?_set_self hl] at s3
    cases s3
    rw [s5, p5, up7_4]
  · rw [p6 b fb hab ecb] at s2
    cases s2
    rw [evb] at s3
    cases s3
    rw [s5, p5, up7_4]
