/-! runs that end: what an instruction that went well tells -/
section PQ
variable {cal : Nat → List Value → mS → Option (Option Value × mS)} {nL : Nat} {tab : Nat → Option mI} {nn pc len q1 q2 q3 q4 : Nat} {lv : mL} {st : List Value} {h : mS} {P : Option Value → mS → Prop}
def mPq (nn : Nat) (cal : Nat → List Value → mS → Option (Option Value × mS)) (nL : Nat) (tab : Nat → Option mI) (s : mX) (P : Option Value → mS → Prop) : Prop := ∀ (b : Nat) (r : Option Value) (h' : mS), b ≤ nn → mloop cal none nL tab b s.1 s.2.1 s.2.2.1 s.2.2.2 = some (r, h') → P r h'
theorem Q_stepS {x : mI} (ht : tab pc = some x) (k : ∀ mm, mm < nn → ∀ o, mstep none nL pc lv st h x = some o → match o with
  | .inl (pc', lv', st', h') => mPq mm cal nL tab (pc', lv', st', h') P
  | .inr (.inl r) => P r h
  | .inr (.inr (y, as, rest)) => ∀ r h', cal y as h = some (r, h') → mPq mm cal nL tab (pc + 3, lv, r.toList ++ rest, h') P) : mPq nn cal nL tab (pc, lv, st, h) P := by
  intro b r h' hbn hs
  cases b with
  | zero => cases hs
  | succ b =>
    have hs : (match tab pc with
      | none => none
      | some x => match mstep none nL pc lv st h x with
        | none => none
        | some (.inl (pc', lv', st', h')) => mloop cal none nL tab b pc' lv' st' h'
        | some (.inr (.inl r)) => some (r, h)
        | some (.inr (.inr (y, as, rest))) => match cal y as h with
          | none => none
          | some (r, h') => mloop cal none nL tab b (pc + 3) lv (r.toList ++ rest) h') = some (r, h') := hs
    rw [ht] at hs
    dsimp only at hs
    cases ho : mstep none nL pc lv st h x with
    | none => rw [ho] at hs; cases hs
    | some o =>
      rw [ho] at hs
      have k := k b (by omega) o ho
      match o, k, hs with
      | .inl (pc', lv', st', h1), k, hs => exact k b r h' (Nat.le_refl _) hs
      | .inr (.inl r1), k, hs => cases hs; exact k
      | .inr (.inr (y, as, rest)), k, hs =>
        dsimp only at hs k
        cases hc : cal y as h with
        | none => rw [hc] at hs; cases hs
        | some q =>
          rw [hc] at hs
          exact k q.1 q.2 hc b r h' (Nat.le_refl _) hs
theorem mPq_le {s : mX} {mm : Nat} (hm : mm ≤ nn) (k : mPq nn cal nL tab s P) : mPq mm cal nL tab s P := fun b r h' hb hs => k b r h' (by omega) hs
theorem Q_step {x : mI} (ht : tab pc = some x) (k : ∀ o, mstep none nL pc lv st h x = some o → match o with
  | .inl (pc', lv', st', h') => mPq nn cal nL tab (pc', lv', st', h') P
  | .inr (.inl r) => P r h
  | .inr (.inr (y, as, rest)) => ∀ r h', cal y as h = some (r, h') → mPq nn cal nL tab (pc + 3, lv, r.toList ++ rest, h') P) : mPq nn cal nL tab (pc, lv, st, h) P := by
  refine Q_stepS ht (fun mm hm o ho => ?_)
  have k := k o ho
  match o, k with
  | .inl (pc', lv', st', h1), k => exact mPq_le (by omega) k
  | .inr (.inl r1), k => exact k
  | .inr (.inr (y, as, rest)), k => exact fun r h' e => mPq_le (by omega) (k r h' e)
theorem Q_ald {i : Fin 4} (ht : tab pc = some (.aload_n i, len, q1, q2, q3, q4)) (k : ∀ v, mget lv i.val = some v → mPq nn cal nL tab (pc + 1, lv, v :: st, h) P) : mPq nn cal nL tab (pc, lv, st, h) P := by
  refine Q_step ht (fun o ho => ?_)
  have ho : mld misref i.val (pc + 1) lv st h = some o := ho
  unfold mld at ho
  cases hv : mget lv i.val with
  | none => rw [hv] at ho; cases ho
  | some v =>
    rw [hv] at ho
    dsimp only at ho
    cases hb : misref v with
    | false => rw [hb] at ho; cases ho
    | true =>
      rw [hb] at ho
      cases ho
      exact k v hv
theorem Q_ast {i : Fin 4} {v : Value} (ht : tab pc = some (.astore_n i, len, q1, q2, q3, q4)) (k : mPq nn cal nL tab (pc + 1, mput lv i.val v, st, h) P) : mPq nn cal nL tab (pc, lv, v :: st, h) P := by
  refine Q_step ht (fun o ho => ?_)
  have ho : mst misref nL i.val (pc + 1) lv (v :: st) h = some o := ho
  unfold mst at ho
  dsimp only at ho
  cases hb : (misref v && Nat.blt i.val nL) with
  | false => rw [hb] at ho; cases ho
  | true =>
    rw [hb] at ho
    cases ho
    exact k
theorem Q_gf {n : Nat} {v0 : Value} (ht : tab pc = some (.getfield n, len, q1, q2, q3, q4)) (h0 : Nat.beq q1 100 = false) (k : ∀ (a : Nat) (fs : List Value) (v : Value), v0 = .ref a → h.1[a]? = some (.inr (q1, fs)) → fs[q2]? = some v → mPq nn cal nL tab (pc + 3, lv, v :: st, h) P) : mPq nn cal nL tab (pc, lv, v0 :: st, h) P := by
  refine Q_step ht (fun o ho => ?_)
  have ho : (bif Nat.beq q1 100 then mgets q2 pc lv (v0 :: st) h else mgetf q1 q2 pc lv (v0 :: st) h) = some o := ho
  rw [h0] at ho
  have ho : mgetf q1 q2 pc lv (v0 :: st) h = some o := ho
  unfold mgetf at ho
  cases v0 with
  | ref a =>
    dsimp only at ho
    cases hc : h.1[a]? with
    | none => rw [hc] at ho; cases ho
    | some c =>
      rw [hc] at ho
      cases c with
      | inl c => cases ho
      | inr c =>
        dsimp only at ho
        cases hb : Nat.beq c.1 q1 with
        | false => rw [hb] at ho; cases ho
        | true =>
          rw [hb] at ho
          have he := Nat.eq_of_beq_eq_true hb
          cases hv : c.2[q2]? with
          | none => rw [hv] at ho; cases ho
          | some v =>
            rw [hv] at ho
            cases ho
            exact k a c.2 v rfl (by rw [hc, ← he]) hv
  | _ => cases ho
theorem Q_pf {n : Nat} {v v0 : Value} (ht : tab pc = some (.putfield n, len, q1, q2, q3, q4)) (k : ∀ (a : Nat) (fs : List Value), v0 = .ref a → h.1[a]? = some (.inr (q1, fs)) → q2 < fs.length → mPq nn cal nL tab (pc + 3, lv, st, (h.1.set a (.inr (q1, fs.set q2 v)), h.2)) P) : mPq nn cal nL tab (pc, lv, v :: v0 :: st, h) P := by
  refine Q_step ht (fun o ho => ?_)
  have ho : mputf q1 q2 pc lv (v :: v0 :: st) h = some o := ho
  unfold mputf at ho
  cases v0 with
  | ref a =>
    dsimp only at ho
    cases hc : h.1[a]? with
    | none => rw [hc] at ho; cases ho
    | some c =>
      rw [hc] at ho
      cases c with
      | inl c => cases ho
      | inr c =>
        dsimp only at ho
        cases hb : (Nat.beq c.1 q1 && (mfit (mtyOf q1 q2) v && Nat.blt q2 c.2.length)) with
        | false => rw [hb] at ho; cases ho
        | true =>
          rw [hb] at ho
          obtain ⟨b1, b2⟩ := mand hb
          obtain ⟨b3, b4⟩ := mand b2
          have he := Nat.eq_of_beq_eq_true b1
          cases ho
          exact k a c.2 rfl (by rw [hc, ← he]) (Nat.blt_eq.mp b4)
  | _ => cases ho
theorem Q_dup {v : Value} (ht : tab pc = some (.dup, len, q1, q2, q3, q4)) (k : mPq nn cal nL tab (pc + 1, lv, v :: v :: st, h) P) : mPq nn cal nL tab (pc, lv, v :: st, h) P := by
  refine Q_step ht (fun o ho => ?_)
  have ho : (bif mone v then mnx (pc + 1) lv (v :: v :: st) h else none) = some o := ho
  cases hb : mone v with
  | false => rw [hb] at ho; cases ho
  | true =>
    rw [hb] at ho
    cases ho
    exact k
theorem Q_ico {n : Int} (ht : tab pc = some (.iconst n, len, q1, q2, q3, q4)) (k : mPq nn cal nL tab (pc + 1, lv, .int (Int32.ofInt n) :: st, h) P) : mPq nn cal nL tab (pc, lv, st, h) P := by
  refine Q_step ht (fun o ho => ?_)
  cases ho
  exact k
theorem Q_bin {f : Int32 → Int32 → Int32} {v w : Value} {x : mI} (ht : tab pc = some x) (hx : mstep none nL pc lv (v :: w :: st) h x = mbin f pc lv (v :: w :: st) h) (k : ∀ a b : Int32, v = .int b → w = .int a → mPq nn cal nL tab (pc + 1, lv, .int (f a b) :: st, h) P) : mPq nn cal nL tab (pc, lv, v :: w :: st, h) P := by
  refine Q_step ht (fun o ho => ?_)
  rw [hx] at ho
  unfold mbin at ho
  cases v with
  | int b =>
    cases w with
    | int a =>
      cases ho
      exact k a b rfl rfl
    | _ => cases ho
  | _ => cases ho
theorem Q_ret (ht : tab pc = some (.return_, len, q1, q2, q3, q4)) (k : ∀ r, P r h) : mPq nn cal nL tab (pc, lv, st, h) P := by
  refine Q_step ht (fun o ho => ?_)
  match o, ho with
  | .inl (pc', lv', st', h1), ho => exact absurd ho (by cases st <;> (intro q; cases q))
  | .inr (.inl r), _ => exact k r
  | .inr (.inr q), ho => exact absurd ho (by cases st <;> (intro q; cases q))
theorem minv_end {y b c : Nat} {o : mO} (ho : minv 0 y b c st h = some o) : ∃ (v : Value) (rest : List Value), st.drop b = v :: rest ∧ o = .inr (.inr (y, v :: (st.take b).reverse, rest)) := by
  have ho : (match st.drop b with
    | .ref k :: r => (match h.1[k]? with
      | some (.inr o) => bif Nat.beq o.1 c && (Nat.ble b st.length && (Nat.ble r.length 8 && (r.all mone && (st.take b).all mone))) then some (.inr (.inr (y, .ref k :: (st.take b).reverse, r))) else none
      | _ => none)
    | .retAddr 0 :: r => bif Nat.beq c 50 && (Nat.ble b st.length && (Nat.ble r.length 8 && (r.all mone && (st.take b).all mone))) then some (.inr (.inr (y, .retAddr 0 :: (st.take b).reverse, r))) else none
    | _ => none) = some o := ho
  revert ho
  generalize st.drop b = D
  intro ho
  split at ho
  · rename_i k r
    split at ho
    · rename_i o' _
      cases hb : (Nat.beq o'.1 c && (Nat.ble b st.length && (Nat.ble r.length 8 && (r.all mone && (st.take b).all mone)))) with
      | false => rw [hb] at ho; cases ho
      | true =>
        rw [hb] at ho
        cases ho
        exact ⟨_, _, rfl, rfl⟩
    · cases ho
  · rename_i r
    cases hb : (Nat.beq c 50 && (Nat.ble b st.length && (Nat.ble r.length 8 && (r.all mone && (st.take b).all mone)))) with
    | false => rw [hb] at ho; cases ho
    | true =>
      rw [hb] at ho
      cases ho
      exact ⟨_, _, rfl, rfl⟩
  · cases ho
theorem Q_cv {n : Nat} (As : List Value) (v0 : Value) (rest : List Value) (ht : tab pc = some (.invokevirtual n, len, q1, q2, q3, q4)) (h0 : Nat.blt q1 10 = false) (hd : st.drop q2 = v0 :: rest) (ha : (st.take q2).reverse = As) (k : ∀ r h', cal (q1 - 10) (v0 :: As) h = some (r, h') → mPq nn cal nL tab (pc + 3, lv, r.toList ++ rest, h') P) : mPq nn cal nL tab (pc, lv, st, h) P := by
  refine Q_step ht (fun o ho => ?_)
  have ho : (bif Nat.blt q1 10 then mspec q1 pc lv st h else minv 0 (q1 - 10) q2 (mcl100 q3) st h) = some o := ho
  rw [h0] at ho
  obtain ⟨v, rest', e1, e2⟩ := minv_end (show minv 0 (q1 - 10) q2 (mcl100 q3) st h = some o from ho)
  rw [hd] at e1
  cases e1
  subst e2
  subst ha
  exact k
end PQ
/-- a call that ended -/
theorem Q_call {d y : Nat} {as : List Value} {h h' : mS} {r : Option Value} {Y : MethodName} {C : ByteArray} {nL : Nat} {ret : Option FieldType} {t : Nat → Option mI} {own np L : Nat} (hM : mmOf y = some (Y, C, nL, ret, t, own, np, L)) (e : mcall (d + 1) y as h = some (r, h')) {P : Option Value → mS → Prop} (k : as.all mone = true → mPq mfuel (mcall d) nL (mgd L t) (0, lv_args 0 as, [], h) P) : P r h' := by
  unfold mcall at e
  rw [hM] at e
  dsimp only at e
  cases hb : (Nat.ble as.length nL && as.all mone) with
  | false => rw [hb] at e; cases e
  | true =>
    rw [hb] at e
    dsimp only [cond_true] at e
    cases hl : mloop (mcall d) none nL (mgd L t) mfuel 0 (lv_args 0 as) [] h with
    | none => rw [hl] at e; cases e
    | some q =>
      rw [hl] at e
      obtain ⟨r1, h1⟩ := q
      dsimp only at e
      cases hc : mretok ret r1 with
      | false => rw [hc] at e; cases e
      | true =>
        rw [hc] at e
        cases e
        exact k (mand hb).2 _ _ _ (Nat.le_refl _) hl
