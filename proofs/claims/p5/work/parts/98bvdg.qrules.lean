/-! more rules for runs that end -/
section PQ2
variable {cal : Nat → List Value → mS → Option (Option Value × mS)} {nL : Nat} {tab : Nat → Option mI} {nn pc len q1 q2 q3 q4 : Nat} {lv : mL} {st : List Value} {h : mS} {P : Option Value → mS → Prop}
theorem Q_nx {x : mI} {p' : Nat} {l' : mL} {s' : List Value} {h1 : mS} (ht : tab pc = some x) (hx : ∀ o, mstep none nL pc lv st h x = some o → o = .inl (p', l', s', h1)) (k : mPq nn cal nL tab (p', l', s', h1) P) : mPq nn cal nL tab (pc, lv, st, h) P := by
  refine Q_step ht (fun o ho => ?_)
  have := hx o ho
  subst this
  exact k
theorem Q_nxS {x : mI} {p' : Nat} {l' : mL} {s' : List Value} {h1 : mS} (ht : tab pc = some x) (hx : ∀ o, mstep none nL pc lv st h x = some o → o = .inl (p', l', s', h1)) (k : ∀ mm, mm < nn → mPq mm cal nL tab (p', l', s', h1) P) : mPq nn cal nL tab (pc, lv, st, h) P := by
  refine Q_stepS ht (fun mm hm o ho => ?_)
  have := hx o ho
  subst this
  exact k mm hm
theorem mld_end {ok : Value → Bool} {i p' : Nat} {v : Value} (hv : mget lv i = some v) {o : mO} (ho : mld ok i p' lv st h = some o) : o = .inl (p', lv, v :: st, h) := by
  unfold mld at ho
  rw [hv] at ho
  dsimp only at ho
  cases hb : ok v with
  | false => rw [hb] at ho; cases ho
  | true => rw [hb] at ho; cases ho; rfl
theorem Q_a {i : Fin 4} {v : Value} (ht : tab pc = some (.aload_n i, len, q1, q2, q3, q4)) (hv : mget lv i.val = some v) (k : mPq nn cal nL tab (pc + 1, lv, v :: st, h) P) : mPq nn cal nL tab (pc, lv, st, h) P := Q_nx ht (fun o ho => mld_end hv (show mld misref i.val (pc + 1) lv st h = some o from ho)) k
theorem Q_i {i : Fin 4} {v : Value} (ht : tab pc = some (.iload_n i, len, q1, q2, q3, q4)) (hv : mget lv i.val = some v) (k : mPq nn cal nL tab (pc + 1, lv, v :: st, h) P) : mPq nn cal nL tab (pc, lv, st, h) P := Q_nx ht (fun o ho => mld_end hv (show mld misint i.val (pc + 1) lv st h = some o from ho)) k
theorem Q_iw {i : Nat} {v : Value} (ht : tab pc = some (.iload i, len, q1, q2, q3, q4)) (hv : mget lv i = some v) (k : mPq nn cal nL tab (pc + 2, lv, v :: st, h) P) : mPq nn cal nL tab (pc, lv, st, h) P := Q_nx ht (fun o ho => mld_end hv (show mld misint i (pc + 2) lv st h = some o from ho)) k
theorem Q_aw {i : Nat} {v : Value} (ht : tab pc = some (.aload i, len, q1, q2, q3, q4)) (hv : mget lv i = some v) (k : mPq nn cal nL tab (pc + 2, lv, v :: st, h) P) : mPq nn cal nL tab (pc, lv, st, h) P := Q_nx ht (fun o ho => mld_end hv (show mld misref i (pc + 2) lv st h = some o from ho)) k
theorem Q_aS {i : Fin 4} {v : Value} (ht : tab pc = some (.aload_n i, len, q1, q2, q3, q4)) (hv : mget lv i.val = some v) (k : ∀ mm, mm < nn → mPq mm cal nL tab (pc + 1, lv, v :: st, h) P) : mPq nn cal nL tab (pc, lv, st, h) P := Q_nxS ht (fun o ho => mld_end hv (show mld misref i.val (pc + 1) lv st h = some o from ho)) k
theorem Q_iS {i : Fin 4} {v : Value} (ht : tab pc = some (.iload_n i, len, q1, q2, q3, q4)) (hv : mget lv i.val = some v) (k : ∀ mm, mm < nn → mPq mm cal nL tab (pc + 1, lv, v :: st, h) P) : mPq nn cal nL tab (pc, lv, st, h) P := Q_nxS ht (fun o ho => mld_end hv (show mld misint i.val (pc + 1) lv st h = some o from ho)) k
theorem Q_iwS {i : Nat} {v : Value} (ht : tab pc = some (.iload i, len, q1, q2, q3, q4)) (hv : mget lv i = some v) (k : ∀ mm, mm < nn → mPq mm cal nL tab (pc + 2, lv, v :: st, h) P) : mPq nn cal nL tab (pc, lv, st, h) P := Q_nxS ht (fun o ho => mld_end hv (show mld misint i (pc + 2) lv st h = some o from ho)) k
theorem mst_end {ok : Value → Bool} {i p' : Nat} {v : Value} {r : List Value} {o : mO} (ho : mst ok nL i p' lv (v :: r) h = some o) : o = .inl (p', mput lv i v, r, h) ∧ ok v = true := by
  unfold mst at ho
  dsimp only at ho
  cases hb : (ok v && Nat.blt i nL) with
  | false => rw [hb] at ho; cases ho
  | true => rw [hb] at ho; cases ho; exact ⟨rfl, (mand hb).1⟩
/-- a store into a local that leaves the others -/
theorem Q_st {i : Fin 4} {v : Value} (ht : tab pc = some (.istore_n i, len, q1, q2, q3, q4)) (hl : ∀ q ∈ lv, mone q.2 = true) (k : ∀ lv' : mL, mget lv' i.val = some v → (∀ j, j ≠ i.val → mget lv' j = mget lv j) → (∀ q ∈ lv', mone q.2 = true) → mPq nn cal nL tab (pc + 1, lv', st, h) P) : mPq nn cal nL tab (pc, lv, v :: st, h) P := by
  refine Q_step ht (fun o ho => ?_)
  obtain ⟨e, hv⟩ := mst_end (show mst misint nL i.val (pc + 1) lv (v :: st) h = some o from ho)
  subst e
  have hv1 : mone v = true := by cases v <;> first | rfl | cases hv
  exact k _ mget_self (fun j hj => mget_putN hj (mget_one hl j)) (mput_mone hl hv1)
theorem Q_stw {i : Nat} {v : Value} (ht : tab pc = some (.istore i, len, q1, q2, q3, q4)) (hl : ∀ q ∈ lv, mone q.2 = true) (k : ∀ lv' : mL, mget lv' i = some v → (∀ j, j ≠ i → mget lv' j = mget lv j) → (∀ q ∈ lv', mone q.2 = true) → mPq nn cal nL tab (pc + 2, lv', st, h) P) : mPq nn cal nL tab (pc, lv, v :: st, h) P := by
  refine Q_step ht (fun o ho => ?_)
  obtain ⟨e, hv⟩ := mst_end (show mst misint nL i (pc + 2) lv (v :: st) h = some o from ho)
  subst e
  have hv1 : mone v = true := by cases v <;> first | rfl | cases hv
  exact k _ mget_self (fun j hj => mget_putN hj (mget_one hl j)) (mput_mone hl hv1)
theorem Q_asw {i : Nat} {v : Value} (ht : tab pc = some (.astore i, len, q1, q2, q3, q4)) (hl : ∀ q ∈ lv, mone q.2 = true) (k : ∀ lv' : mL, mget lv' i = some v → (∀ j, j ≠ i → mget lv' j = mget lv j) → (∀ q ∈ lv', mone q.2 = true) → mPq nn cal nL tab (pc + 2, lv', st, h) P) : mPq nn cal nL tab (pc, lv, v :: st, h) P := by
  refine Q_step ht (fun o ho => ?_)
  obtain ⟨e, hv⟩ := mst_end (show mst misref nL i (pc + 2) lv (v :: st) h = some o from ho)
  subst e
  have hv1 : mone v = true := by cases v <;> first | rfl | cases hv
  exact k _ mget_self (fun j hj => mget_putN hj (mget_one hl j)) (mput_mone hl hv1)
theorem Q_inc {i : Nat} {n : Int} {x : Int32} (ht : tab pc = some (.iinc i n, len, q1, q2, q3, q4)) (hx : mget lv i = some (.int x)) (hl : ∀ q ∈ lv, mone q.2 = true) (k : ∀ lv' : mL, mget lv' i = some (.int (x + Int32.ofInt n)) → (∀ j, j ≠ i → mget lv' j = mget lv j) → (∀ q ∈ lv', mone q.2 = true) → mPq nn cal nL tab (pc + 3, lv', st, h) P) : mPq nn cal nL tab (pc, lv, st, h) P := by
  refine Q_step ht (fun o ho => ?_)
  have ho : (match mget lv i with
      | some (.int x) => bif Nat.blt i nL then mnx (pc + 3) (mput lv i (.int (x + Int32.ofInt n))) st h else none
      | _ => none) = some o := ho
  rw [hx] at ho
  dsimp only at ho
  cases hb : Nat.blt i nL with
  | false => rw [hb] at ho; cases ho
  | true =>
    rw [hb] at ho
    cases ho
    exact k _ mget_self (fun j hj => mget_putN hj (mget_one hl j)) (mput_mone hl rfl)
theorem Q_go {n : Int} (ht : tab pc = some (.goto n, len, q1, q2, q3, q4)) (k : mPq nn cal nL tab (q1, lv, st, h) P) : mPq nn cal nL tab (pc, lv, st, h) P := Q_nx ht (fun o ho => by cases ho; rfl) k
theorem Q_bip {n : Int} (ht : tab pc = some (.bipush n, len, q1, q2, q3, q4)) (k : mPq nn cal nL tab (pc + 2, lv, .int (Int8.ofInt n).toInt32 :: st, h) P) : mPq nn cal nL tab (pc, lv, st, h) P := Q_nx ht (fun o ho => by cases ho; rfl) k
theorem Q_g {n a : Nat} {fs : List Value} {v : Value} (ht : tab pc = some (.getfield n, len, q1, q2, q3, q4)) (h0 : Nat.beq q1 100 = false) (hc : h.1[a]? = some (.inr (q1, fs))) (hv : fs[q2]? = some v) (k : mPq nn cal nL tab (pc + 3, lv, v :: st, h) P) : mPq nn cal nL tab (pc, lv, .ref a :: st, h) P := by
  refine Q_gf ht h0 (fun a' fs' v' e1 e2 e3 => ?_)
  cases e1
  rw [hc] at e2
  cases e2
  rw [hv] at e3
  cases e3
  exact k
theorem Q_if {v : Value} {x : mI} {c : Int32 → Prop} [DecidablePred c] {t : Nat} (ht : tab pc = some x) (hx : mstep none nL pc lv (v :: st) h x = mif c pc t lv (v :: st) h) (k1 : ∀ y, v = .int y → c y → mPq nn cal nL tab (t, lv, st, h) P) (k2 : ∀ y, v = .int y → ¬ c y → mPq nn cal nL tab (pc + 3, lv, st, h) P) : mPq nn cal nL tab (pc, lv, v :: st, h) P := by
  refine Q_step ht (fun o ho => ?_)
  rw [hx] at ho
  unfold mif at ho
  cases v with
  | int y =>
    dsimp only at ho
    split at ho
    · cases ho
      exact k1 y rfl (by assumption)
    · cases ho
      exact k2 y rfl (by assumption)
  | _ => cases ho
theorem Q_if2 {v w : Value} {x : mI} {c : Int32 → Int32 → Prop} [∀ x y, Decidable (c x y)] {t : Nat} (ht : tab pc = some x) (hx : mstep none nL pc lv (v :: w :: st) h x = mif2 c pc t lv (v :: w :: st) h) (k1 : ∀ y z, v = .int y → w = .int z → c z y → mPq nn cal nL tab (t, lv, st, h) P) (k2 : ∀ y z, v = .int y → w = .int z → ¬ c z y → mPq nn cal nL tab (pc + 3, lv, st, h) P) : mPq nn cal nL tab (pc, lv, v :: w :: st, h) P := by
  refine Q_step ht (fun o ho => ?_)
  rw [hx] at ho
  unfold mif2 at ho
  cases v with
  | int y =>
    cases w with
    | int z =>
      dsimp only at ho
      split at ho
      · cases ho
        exact k1 y z rfl rfl (by assumption)
      · cases ho
        exact k2 y z rfl rfl (by assumption)
    | _ => cases ho
  | _ => cases ho
theorem Q_if_eq {v : Value} {n : Int} (ht : tab pc = some (.ifCond .eq n, len, q1, q2, q3, q4)) (k1 : ∀ x, v = .int x → x = 0 → mPq nn cal nL tab (q1, lv, st, h) P) (k2 : ∀ x, v = .int x → ¬ (x = 0) → mPq nn cal nL tab (pc + 3, lv, st, h) P) : mPq nn cal nL tab (pc, lv, v :: st, h) P := Q_if (c := fun x => x = 0) ht rfl k1 k2
theorem Q_if_ne {v : Value} {n : Int} (ht : tab pc = some (.ifCond .ne n, len, q1, q2, q3, q4)) (k1 : ∀ x, v = .int x → ¬ x = 0 → mPq nn cal nL tab (q1, lv, st, h) P) (k2 : ∀ x, v = .int x → ¬ (¬ x = 0) → mPq nn cal nL tab (pc + 3, lv, st, h) P) : mPq nn cal nL tab (pc, lv, v :: st, h) P := Q_if (c := fun x => ¬ x = 0) ht rfl k1 k2
theorem Q_if_lt {v : Value} {n : Int} (ht : tab pc = some (.ifCond .lt n, len, q1, q2, q3, q4)) (k1 : ∀ x, v = .int x → x < 0 → mPq nn cal nL tab (q1, lv, st, h) P) (k2 : ∀ x, v = .int x → ¬ (x < 0) → mPq nn cal nL tab (pc + 3, lv, st, h) P) : mPq nn cal nL tab (pc, lv, v :: st, h) P := Q_if (c := fun x => x < 0) ht rfl k1 k2
theorem Q_if_ge {v : Value} {n : Int} (ht : tab pc = some (.ifCond .ge n, len, q1, q2, q3, q4)) (k1 : ∀ x, v = .int x → 0 ≤ x → mPq nn cal nL tab (q1, lv, st, h) P) (k2 : ∀ x, v = .int x → ¬ (0 ≤ x) → mPq nn cal nL tab (pc + 3, lv, st, h) P) : mPq nn cal nL tab (pc, lv, v :: st, h) P := Q_if (c := fun x => 0 ≤ x) ht rfl k1 k2
theorem Q_if_gt {v : Value} {n : Int} (ht : tab pc = some (.ifCond .gt n, len, q1, q2, q3, q4)) (k1 : ∀ x, v = .int x → 0 < x → mPq nn cal nL tab (q1, lv, st, h) P) (k2 : ∀ x, v = .int x → ¬ (0 < x) → mPq nn cal nL tab (pc + 3, lv, st, h) P) : mPq nn cal nL tab (pc, lv, v :: st, h) P := Q_if (c := fun x => 0 < x) ht rfl k1 k2
theorem Q_if_le {v : Value} {n : Int} (ht : tab pc = some (.ifCond .le n, len, q1, q2, q3, q4)) (k1 : ∀ x, v = .int x → x ≤ 0 → mPq nn cal nL tab (q1, lv, st, h) P) (k2 : ∀ x, v = .int x → ¬ (x ≤ 0) → mPq nn cal nL tab (pc + 3, lv, st, h) P) : mPq nn cal nL tab (pc, lv, v :: st, h) P := Q_if (c := fun x => x ≤ 0) ht rfl k1 k2
theorem Q_ic_eq {v w : Value} {n : Int} (ht : tab pc = some (.if_icmp .eq n, len, q1, q2, q3, q4)) (k1 : ∀ x y, w = .int x → v = .int y → x = y → mPq nn cal nL tab (q1, lv, st, h) P) (k2 : ∀ x y, w = .int x → v = .int y → ¬ (x = y) → mPq nn cal nL tab (pc + 3, lv, st, h) P) : mPq nn cal nL tab (pc, lv, v :: w :: st, h) P := Q_if2 (c := fun x y => x = y) ht rfl (fun y x e1 e2 q => k1 x y e2 e1 q) (fun y x e1 e2 q => k2 x y e2 e1 q)
theorem Q_ic_ne {v w : Value} {n : Int} (ht : tab pc = some (.if_icmp .ne n, len, q1, q2, q3, q4)) (k1 : ∀ x y, w = .int x → v = .int y → ¬ x = y → mPq nn cal nL tab (q1, lv, st, h) P) (k2 : ∀ x y, w = .int x → v = .int y → ¬ (¬ x = y) → mPq nn cal nL tab (pc + 3, lv, st, h) P) : mPq nn cal nL tab (pc, lv, v :: w :: st, h) P := Q_if2 (c := fun x y => ¬ x = y) ht rfl (fun y x e1 e2 q => k1 x y e2 e1 q) (fun y x e1 e2 q => k2 x y e2 e1 q)
theorem Q_ic_lt {v w : Value} {n : Int} (ht : tab pc = some (.if_icmp .lt n, len, q1, q2, q3, q4)) (k1 : ∀ x y, w = .int x → v = .int y → x < y → mPq nn cal nL tab (q1, lv, st, h) P) (k2 : ∀ x y, w = .int x → v = .int y → ¬ (x < y) → mPq nn cal nL tab (pc + 3, lv, st, h) P) : mPq nn cal nL tab (pc, lv, v :: w :: st, h) P := Q_if2 (c := fun x y => x < y) ht rfl (fun y x e1 e2 q => k1 x y e2 e1 q) (fun y x e1 e2 q => k2 x y e2 e1 q)
theorem Q_ic_ge {v w : Value} {n : Int} (ht : tab pc = some (.if_icmp .ge n, len, q1, q2, q3, q4)) (k1 : ∀ x y, w = .int x → v = .int y → y ≤ x → mPq nn cal nL tab (q1, lv, st, h) P) (k2 : ∀ x y, w = .int x → v = .int y → ¬ (y ≤ x) → mPq nn cal nL tab (pc + 3, lv, st, h) P) : mPq nn cal nL tab (pc, lv, v :: w :: st, h) P := Q_if2 (c := fun x y => y ≤ x) ht rfl (fun y x e1 e2 q => k1 x y e2 e1 q) (fun y x e1 e2 q => k2 x y e2 e1 q)
theorem Q_ic_gt {v w : Value} {n : Int} (ht : tab pc = some (.if_icmp .gt n, len, q1, q2, q3, q4)) (k1 : ∀ x y, w = .int x → v = .int y → y < x → mPq nn cal nL tab (q1, lv, st, h) P) (k2 : ∀ x y, w = .int x → v = .int y → ¬ (y < x) → mPq nn cal nL tab (pc + 3, lv, st, h) P) : mPq nn cal nL tab (pc, lv, v :: w :: st, h) P := Q_if2 (c := fun x y => y < x) ht rfl (fun y x e1 e2 q => k1 x y e2 e1 q) (fun y x e1 e2 q => k2 x y e2 e1 q)
theorem Q_ic_le {v w : Value} {n : Int} (ht : tab pc = some (.if_icmp .le n, len, q1, q2, q3, q4)) (k1 : ∀ x y, w = .int x → v = .int y → x ≤ y → mPq nn cal nL tab (q1, lv, st, h) P) (k2 : ∀ x y, w = .int x → v = .int y → ¬ (x ≤ y) → mPq nn cal nL tab (pc + 3, lv, st, h) P) : mPq nn cal nL tab (pc, lv, v :: w :: st, h) P := Q_if2 (c := fun x y => x ≤ y) ht rfl (fun y x e1 e2 q => k1 x y e2 e1 q) (fun y x e1 e2 q => k2 x y e2 e1 q)
theorem mald_end {t : Nat} {v w : Value} {r : List Value} {o : mO} (ho : mald t pc none lv (v :: w :: r) h = some o) : ∃ (i : Int32) (a : Nat) (xs : List Int32) (y : Int32), v = .int i ∧ w = .ref a ∧ h.1[a]? = some (.inl (t, .inl xs)) ∧ 0 ≤ i.toInt ∧ xs[i.toNatClampNeg]? = some y ∧ o = .inl (pc + 1, lv, .int y :: r, h) := by
  unfold mald at ho
  split at ho
  · rename_i i a r' e
    cases e
    split at ho
    · rename_i t' xs hc
      cases hb : Nat.beq t t' with
      | false => rw [hb] at ho; cases ho
      | true =>
        rw [hb] at ho
        have := Nat.eq_of_beq_eq_true hb
        subst this
        rw [cond_true] at ho
        split at ho
        · cases ho
        · rename_i hi
          split at ho
          · rename_i y hy
            cases ho
            exact ⟨i, a, xs, y, rfl, rfl, hc, by
              have := Int32.le_iff_toInt_le.mp (Int32.not_lt.mp hi)
              exact this, hy, rfl⟩
          · cases ho
    · cases ho
  · cases ho
  · cases ho
theorem Q_ia {v w : Value} (ht : tab pc = some (.iaload, len, q1, q2, q3, q4)) (k : ∀ (i : Int32) (a : Nat) (xs : List Int32) (y : Int32), v = .int i → w = .ref a → h.1[a]? = some (.inl (0, .inl xs)) → 0 ≤ i.toInt → xs[i.toNatClampNeg]? = some y → mPq nn cal nL tab (pc + 1, lv, .int y :: st, h) P) : mPq nn cal nL tab (pc, lv, v :: w :: st, h) P := by
  refine Q_step ht (fun o ho => ?_)
  obtain ⟨i, a, xs, y, e1, e2, e3, e4, e5, rfl⟩ := mald_end (show mald 0 pc none lv (v :: w :: st) h = some o from ho)
  exact k i a xs y e1 e2 e3 e4 e5
theorem Q_ba {v w : Value} (ht : tab pc = some (.baload, len, q1, q2, q3, q4)) (k : ∀ y : Int32, mPq nn cal nL tab (pc + 1, lv, .int y :: st, h) P) : mPq nn cal nL tab (pc, lv, v :: w :: st, h) P := by
  refine Q_step ht (fun o ho => ?_)
  have ho : mbld pc lv (v :: w :: st) h = some o := ho
  unfold mbld at ho
  split at ho
  · rename_i e
    cases e
    split at ho
    · cases ho
    · split at ho
      · cases ho
        exact k _
      · cases ho
  · obtain ⟨i, a, xs, y, e1, e2, e3, e4, e5, rfl⟩ := mald_end ho
    exact k y
theorem Q_ias {v w u : Value} (ht : tab pc = some (.iastore, len, q1, q2, q3, q4)) (k : ∀ (x i : Int32) (a : Nat) (xs : List Int32), v = .int x → w = .int i → u = .ref a → h.1[a]? = some (.inl (0, .inl xs)) → 0 ≤ i.toInt → i.toNatClampNeg < xs.length → mPq nn cal nL tab (pc + 1, lv, st, (h.1.set a (.inl (0, .inl (xs.set i.toNatClampNeg x))), h.2)) P) : mPq nn cal nL tab (pc, lv, v :: w :: u :: st, h) P := by
  refine Q_step ht (fun o ho => ?_)
  have ho : mast 0 pc lv (v :: w :: u :: st) h = some o := ho
  unfold mast at ho
  split at ho
  · rename_i x i a r' e
    cases e
    split at ho
    · rename_i t' xs hc
      cases hb : (Nat.beq 0 t' && (Nat.beq 0 0 || (x == 0 || x == 1))) with
      | false => rw [hb] at ho; cases ho
      | true =>
        rw [hb] at ho
        have := Nat.eq_of_beq_eq_true (mand hb).1
        subst this
        rw [cond_true] at ho
        split at ho
        · cases ho
        · rename_i hi
          cases ho
          refine k x i a xs rfl rfl rfl hc ?_ ?_
          · have := Int32.le_iff_toInt_le.mp (Int32.not_lt.mp (fun q => hi (Or.inl q)))
            exact this
          · exact Nat.lt_of_not_le (fun q => hi (Or.inr q))
    · cases ho
  · cases ho
theorem Q_dup2 {v w : Value} (ht : tab pc = some (.dup2, len, q1, q2, q3, q4)) (k : mPq nn cal nL tab (pc + 1, lv, v :: w :: v :: w :: st, h) P) : mPq nn cal nL tab (pc, lv, v :: w :: st, h) P := by
  refine Q_step ht (fun o ho => ?_)
  have ho : (bif mone v && mone w then mnx (pc + 1) lv (v :: w :: v :: w :: st) h else none) = some o := ho
  cases hb : (mone v && mone w) with
  | false => rw [hb] at ho; cases ho
  | true => rw [hb] at ho; cases ho; exact k
theorem Q_irt {v : Value} (ht : tab pc = some (.ireturn, len, q1, q2, q3, q4)) (k : ∀ x : Int32, v = .int x → st = [] → P (some (.int x)) h) : mPq nn cal nL tab (pc, lv, v :: st, h) P := by
  refine Q_step ht (fun o ho => ?_)
  have ho : (match v :: st with
      | [.int x] => some (.inr (.inl (some (.int x))))
      | _ => none) = some o := ho
  split at ho
  · rename_i x e
    cases e
    cases ho
    exact k x rfl rfl
  · cases ho
theorem minv2_end {y b c : Nat} {o : mO} (ho : minv 2 y b c st h = some o) : o = .inr (.inr (y, (st.take b).reverse, st.drop b)) := by
  unfold minv at ho
  simp only [cond_eq_ite] at ho
  repeat' (split at ho)
  all_goals first
    | (cases ho; done)
    | (cases ho; rfl)
    | exact absurd ‹Nat.blt 2 2 = true› (by decide)
theorem Q_cs {n : Nat} (As rest : List Value) (ht : tab pc = some (.invokestatic n, len, q1, q2, q3, q4)) (h0 : Nat.blt q1 10 = false) (hd : st.drop q2 = rest) (ha : (st.take q2).reverse = As) (k : ∀ r h', cal (q1 - 10) As h = some (r, h') → mPq nn cal nL tab (pc + 3, lv, r.toList ++ rest, h') P) : mPq nn cal nL tab (pc, lv, st, h) P := by
  refine Q_step ht (fun o ho => ?_)
  have ho : (bif Nat.blt q1 10 then mspec q1 pc lv st h else minv 2 (q1 - 10) q2 0 st h) = some o := ho
  rw [h0] at ho
  have := minv2_end (show minv 2 (q1 - 10) q2 0 st h = some o from ho)
  subst this
  subst ha
  subst hd
  exact k
theorem Q_p {n a : Nat} {fs : List Value} {v : Value} (ht : tab pc = some (.putfield n, len, q1, q2, q3, q4)) (hc : h.1[a]? = some (.inr (q1, fs))) (k : q2 < fs.length → mPq nn cal nL tab (pc + 3, lv, st, (h.1.set a (.inr (q1, fs.set q2 v)), h.2)) P) : mPq nn cal nL tab (pc, lv, v :: .ref a :: st, h) P := by
  refine Q_pf ht (fun a' fs' e1 e2 e3 => ?_)
  cases e1
  rw [hc] at e2
  cases e2
  exact k e3
end PQ2
/-- what a call that ended gives back -/
theorem ret_ok {d y : Nat} {as : List Value} {h h' : mS} {r : Option Value} {Y : MethodName} {C : ByteArray} {nL : Nat} {ret : Option FieldType} {t : Nat → Option mI} {own np L : Nat} (hM : mmOf y = some (Y, C, nL, ret, t, own, np, L)) (e : mcall d y as h = some (r, h')) : mretok ret r = true := by
  cases d with
  | zero => cases e
  | succ d =>
    unfold mcall at e
    rw [hM] at e
    dsimp only at e
    cases hb : (Nat.ble as.length nL && as.all mone) with
    | false => rw [hb] at e; cases e
    | true =>
      rw [hb] at e
      dsimp only [cond_true] at e
      cases hl : mloop (mcall d) none nL (mgd L t) mfuel 0 (lv_args 0 as) [] h with
      | none => rw [hl] at e; cases e
      | some q =>
        rw [hl] at e
        obtain ⟨r1, h1⟩ := q
        dsimp only at e
        cases hc : mretok ret r1 with
        | false => rw [hc] at e; cases e
        | true =>
          rw [hc] at e
          cases e
          exact hc
theorem ret_0 {r : Option Value} (h : mretok none r = true) : r = none := by
  cases r with
  | none => rfl
  | some v => cases h
theorem ret_b {r : Option Value} (h : mretok (some .boolean) r = true) : ∃ x : Int32, r = some (.int x) := by
  cases r with
  | none => cases h
  | some v => cases v <;> first | exact ⟨_, rfl⟩ | cases h
theorem ret_i {r : Option Value} (h : mretok (some .int) r = true) : ∃ x : Int32, r = some (.int x) := by
  cases r with
  | none => cases h
  | some v => cases v <;> first | exact ⟨_, rfl⟩ | cases h
