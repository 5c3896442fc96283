/-! strip -/
section PQ3
variable {cal : Nat → List Value → mS → Option (Option Value × mS)} {nL : Nat} {tab : Nat → Option mI} {nn pc len q1 q2 q3 q4 : Nat} {lv : mL} {st : List Value} {h : mS} {P : Option Value → mS → Prop}
theorem Q_nw {n : Nat} (ht : tab pc = some (.new n, len, q1, q2, q3, q4)) (k : ∀ (D : List Value) (m : Nat), mPq nn cal nL tab (pc + 3, lv, .ref h.1.length :: st, (h.1 ++ [.inr (q1, D)], m)) P) : mPq nn cal nL tab (pc, lv, st, h) P := by
  refine Q_step ht (fun o ho => ?_)
  cases ho
  exact k _ _
theorem Q_csp {n : Nat} (As : List Value) (v0 : Value) (rest : List Value) (ht : tab pc = some (.invokespecial n, len, q1, q2, q3, q4)) (h0 : Nat.blt q1 10 = false) (hd : st.drop q2 = v0 :: rest) (ha : (st.take q2).reverse = As) (k : ∀ r h', cal (q1 - 10) (v0 :: As) h = some (r, h') → mPq nn cal nL tab (pc + 3, lv, r.toList ++ rest, h') P) : mPq nn cal nL tab (pc, lv, st, h) P := by
  refine Q_step ht (fun o ho => ?_)
  have ho : (bif Nat.blt q1 10 then mspec q1 pc lv st h else minv 1 (q1 - 10) q2 (mcl100 q3) st h) = some o := ho
  rw [h0] at ho
  obtain ⟨v, rest', e1, e2⟩ := minv_end (show minv 0 (q1 - 10) q2 (mcl100 q3) st h = some o from ho)
  rw [hd] at e1
  cases e1
  subst e2
  subst ha
  exact k
theorem Q_aa {v w : Value} (ht : tab pc = some (.aaload, len, q1, q2, q3, q4)) (k : ∀ (i : Int32) (a t : Nat) (qs : List (Option Nat)) (u : Option Nat), v = .int i → w = .ref a → h.1[a]? = some (.inl (t, .inr qs)) → 0 ≤ i.toInt → qs[i.toNatClampNeg]? = some u → mPq nn cal nL tab (pc + 1, lv, mrf u :: st, h) P) : mPq nn cal nL tab (pc, lv, v :: w :: st, h) P := by
  refine Q_step ht (fun o ho => ?_)
  have ho : maldq pc lv (v :: w :: st) h = some o := ho
  unfold maldq at ho
  split at ho
  · rename_i i a r' e
    cases e
    split at ho
    · rename_i t qs hc
      cases hb : (Nat.blt 1 t && Nat.blt t 6) with
      | false => rw [hb] at ho; cases ho
      | true =>
        rw [hb, cond_true] at ho
        split at ho
        · cases ho
        · rename_i hi
          split at ho
          · rename_i u hu
            cases ho
            exact k i a t qs u rfl rfl hc (Int32.le_iff_toInt_le.mp (Int32.not_lt.mp hi)) hu
          · cases ho
    · cases ho
  · cases ho
theorem Q_aas {v w u : Value} (ht : tab pc = some (.aastore, len, q1, q2, q3, q4)) (k : ∀ (a : Nat) (q q' : Nat × (List Int32 ⊕ List (Option Nat))), h.1[a]? = some (.inl q) → mPq nn cal nL tab (pc + 1, lv, st, (h.1.set a (.inl q'), h.2)) P) : mPq nn cal nL tab (pc, lv, v :: w :: u :: st, h) P := by
  refine Q_step ht (fun o ho => ?_)
  have ho : mastq pc lv (v :: w :: u :: st) h = some o := ho
  unfold mastq at ho
  split at ho
  · rename_i v' i a r' e
    cases e
    split at ho
    · rename_i t qs o' hc _
      cases hb : (Nat.blt 1 t && (Nat.blt t 6 && Nat.beq o'.1 (mcOf t))) with
      | false => rw [hb] at ho; cases ho
      | true =>
        rw [hb, cond_true] at ho
        split at ho
        · cases ho
        · cases ho
          exact k a _ _ hc
    · cases ho
  · cases ho
theorem Q_pop {v : Value} (ht : tab pc = some (.pop, len, q1, q2, q3, q4)) (k : mPq nn cal nL tab (pc + 1, lv, st, h) P) : mPq nn cal nL tab (pc, lv, v :: st, h) P := by
  refine Q_step ht (fun o ho => ?_)
  have ho : (bif mone v then mnx (pc + 1) lv st h else none) = some o := ho
  cases hb : mone v with
  | false => rw [hb] at ho; cases ho
  | true => rw [hb] at ho; cases ho; exact k
end PQ3
/-- what is not a Strip stays as it is -/
def N7 (h h' : mS) : Prop := ∀ (c : Nat) (q : mC), h.1[c]? = some q → (∀ fs, q ≠ .inr (7, fs)) → h'.1[c]? = some q
def p7I (x : mI) : Bool := match x.1 with
  | .putfield _ => Nat.beq x.2.2.1 7
  | _ => roI x
theorem n7_step {nL pc : Nat} {lv : mL} {st : List Value} {h : mS} {x : mI} {p : Nat} {l : mL} {s : List Value} {h1 : mS} (hx : p7I x = true) (hs : mstep none nL pc lv st h x = some (.inl (p, l, s, h1))) : N7 h h1 := by
  by_cases hr : roI x = true
  · have := ro_step hr hs
    subst this
    exact fun c q e _ => e
  · obtain ⟨i, len, a, b, c3, d⟩ := x
    unfold p7I at hx
    dsimp only at hx
    split at hx
    · have := Nat.eq_of_beq_eq_true hx
      subst this
      have hs : mputf 7 b pc lv st h = some (.inl (p, l, s, h1)) := hs
      unfold mputf at hs
      repeat' (split at hs)
      all_goals first | (cases hs; done) | skip
      rename_i o hc
      cases hb : (Nat.beq o.1 7 && (mfit (mtyOf 7 b) _ && Nat.blt b o.2.length)) with
      | false => rw [hb] at hs; cases hs
      | true =>
        rw [hb, cond_true] at hs
        have := Nat.eq_of_beq_eq_true (mand hb).1
        cases hs
        intro c q e hq
        dsimp only
        rw [List.getElem?_set_ne]
        · exact e
        · intro e2
          subst e2
          rw [hc] at e
          cases e
          exact hq o.2 (by rw [← this])
    · exact absurd hx hr
set_option maxRecDepth 10000 in
theorem gS_38 : gSet p7I [38] [] = true := by decide +kernel
theorem n7_init {d : Nat} {as : List Value} {h : mS} {r : Option Value} {h' : mS} (e : mcall d 38 as h = some (r, h')) : N7 h h' :=
  mcall_rel (Rl := N7) (fun _ _ _ e _ => e) (fun _ _ _ a b c q e hq => b c q (a c q e hq) hq) (fun nL pc lv st h x p l s h1 hx hs => n7_step hx hs) gS_38 (fun d y as h r h' hy e => absurd hy (by simp)) d 38 as h r h' (by simp) e
