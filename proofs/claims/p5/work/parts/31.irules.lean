section MRI
variable {d : Nat} {cal : Nat → List Value → mS → Option (Option Value × mS)} {scr : Option (Nat × (Nat → Int32))} {nL : Nat} {tab : Nat → Option mI} {b : Nat} {P : Option Value → mS → Prop} {pc : Nat} {lv : mL} {st : List Value} {h : mS} {len q1 q2 q3 q4 : Nat}
theorem mE_s {x : mI} {s' : mX} (ht : tab pc = some x) (hs : mstep scr nL pc lv st h x = some (.inl s')) (k : mE cal scr nL tab b s' P) : mE cal scr nL tab (b + 1) (pc, lv, st, h) P := by
  obtain ⟨r, h', h1, h2⟩ := k
  refine ⟨r, h', ?_, h2⟩
  rw [mloop_eq, ht]
  simp only [hs]
  exact h1
theorem mE_anull (pc1 : Nat)  (ht : tab pc = some (.aconst_null, len, q1, q2, q3, q4))  (hp : pc + 1 = pc1) (k : mE cal scr nL tab b (pc1, lv, .null :: st, h) P) : mE cal scr nL tab (b + 1) (pc, lv, st, h) P := by
  subst hp
  exact mE_s ht (by simp only [mstep, mnx]) k
theorem mE_ald (pc1 : Nat) {i : Nat} {v : Value} (ht : tab pc = some (.aload i, len, q1, q2, q3, q4)) (hv : mget lv i = some v) (ho : misref v = true) (hp : pc + 2 = pc1) (k : mE cal scr nL tab b (pc1, lv, v :: st, h) P) : mE cal scr nL tab (b + 1) (pc, lv, st, h) P := by
  subst hp
  exact mE_s ht (by simp only [mstep, mld, hv, ho, cond_true, mnx]) k
theorem mE_ild (pc1 : Nat) {i : Nat} {v : Value} (ht : tab pc = some (.iload i, len, q1, q2, q3, q4)) (hv : mget lv i = some v) (ho : misint v = true) (hp : pc + 2 = pc1) (k : mE cal scr nL tab b (pc1, lv, v :: st, h) P) : mE cal scr nL tab (b + 1) (pc, lv, st, h) P := by
  subst hp
  exact mE_s ht (by simp only [mstep, mld, hv, ho, cond_true, mnx]) k
theorem mE_aldn (pc1 : Nat) {i : Fin 4} {v : Value} (ht : tab pc = some (.aload_n i, len, q1, q2, q3, q4)) (hv : mget lv i.val = some v) (ho : misref v = true) (hp : pc + 1 = pc1) (k : mE cal scr nL tab b (pc1, lv, v :: st, h) P) : mE cal scr nL tab (b + 1) (pc, lv, st, h) P := by
  subst hp
  exact mE_s ht (by simp only [mstep, mld, hv, ho, cond_true, mnx]) k
theorem mE_ildn (pc1 : Nat) {i : Fin 4} {v : Value} (ht : tab pc = some (.iload_n i, len, q1, q2, q3, q4)) (hv : mget lv i.val = some v) (ho : misint v = true) (hp : pc + 1 = pc1) (k : mE cal scr nL tab b (pc1, lv, v :: st, h) P) : mE cal scr nL tab (b + 1) (pc, lv, st, h) P := by
  subst hp
  exact mE_s ht (by simp only [mstep, mld, hv, ho, cond_true, mnx]) k
theorem mE_ast (pc1 : Nat) {i : Nat} {v : Value} (lv1 : mL) (ht : tab pc = some (.astore i, len, q1, q2, q3, q4)) (hv : (misref v && Nat.blt i nL) = true) (hl : mput lv i v = lv1) (hp : pc + 2 = pc1) (k : mE cal scr nL tab b (pc1, lv1, st, h) P) : mE cal scr nL tab (b + 1) (pc, lv, v :: st, h) P := by
  subst hp
  exact mE_s ht (by simp only [mstep, mst, hv, cond_true, mnx, hl]) k
theorem mE_ist (pc1 : Nat) {i : Nat} {v : Value} (lv1 : mL) (ht : tab pc = some (.istore i, len, q1, q2, q3, q4)) (hv : (misint v && Nat.blt i nL) = true) (hl : mput lv i v = lv1) (hp : pc + 2 = pc1) (k : mE cal scr nL tab b (pc1, lv1, st, h) P) : mE cal scr nL tab (b + 1) (pc, lv, v :: st, h) P := by
  subst hp
  exact mE_s ht (by simp only [mstep, mst, hv, cond_true, mnx, hl]) k
theorem mE_astn (pc1 : Nat) {i : Fin 4} {v : Value} (lv1 : mL) (ht : tab pc = some (.astore_n i, len, q1, q2, q3, q4)) (hv : (misref v && Nat.blt i.val nL) = true) (hl : mput lv i.val v = lv1) (hp : pc + 1 = pc1) (k : mE cal scr nL tab b (pc1, lv1, st, h) P) : mE cal scr nL tab (b + 1) (pc, lv, v :: st, h) P := by
  subst hp
  exact mE_s ht (by simp only [mstep, mst, hv, cond_true, mnx, hl]) k
theorem mE_istn (pc1 : Nat) {i : Fin 4} {v : Value} (lv1 : mL) (ht : tab pc = some (.istore_n i, len, q1, q2, q3, q4)) (hv : (misint v && Nat.blt i.val nL) = true) (hl : mput lv i.val v = lv1) (hp : pc + 1 = pc1) (k : mE cal scr nL tab b (pc1, lv1, st, h) P) : mE cal scr nL tab (b + 1) (pc, lv, v :: st, h) P := by
  subst hp
  exact mE_s ht (by simp only [mstep, mst, hv, cond_true, mnx, hl]) k
theorem mE_ico (pc1 : Nat) {n : Int} (v : Int32) (ht : tab pc = some (.iconst n, len, q1, q2, q3, q4)) (hv : Int32.ofInt n = v) (hp : pc + 1 = pc1) (k : mE cal scr nL tab b (pc1, lv, .int v :: st, h) P) : mE cal scr nL tab (b + 1) (pc, lv, st, h) P := by
  subst hp
  exact mE_s ht (by simp only [mstep, mnx, hv]) k
theorem mE_bip (pc1 : Nat) {n : Int} (v : Int32) (ht : tab pc = some (.bipush n, len, q1, q2, q3, q4)) (hv : (Int8.ofInt n).toInt32 = v) (hp : pc + 2 = pc1) (k : mE cal scr nL tab b (pc1, lv, .int v :: st, h) P) : mE cal scr nL tab (b + 1) (pc, lv, st, h) P := by
  subst hp
  exact mE_s ht (by simp only [mstep, mnx, hv]) k
theorem mE_sip (pc1 : Nat) {n : Int} (v : Int32) (ht : tab pc = some (.sipush n, len, q1, q2, q3, q4)) (hv : (Int16.ofInt n).toInt32 = v) (hp : pc + 3 = pc1) (k : mE cal scr nL tab b (pc1, lv, .int v :: st, h) P) : mE cal scr nL tab (b + 1) (pc, lv, st, h) P := by
  subst hp
  exact mE_s ht (by simp only [mstep, mnx, hv]) k
theorem mE_ldci (pc1 : Nat) {n : Nat} (v : Int32) (ht : tab pc = some (.ldc n, len, q1, q2, q3, q4)) (h0 : Nat.beq q1 0 = true) (hv : Int32.ofNat q2 = v) (hp : pc + 2 = pc1) (k : mE cal scr nL tab b (pc1, lv, .int v :: st, h) P) : mE cal scr nL tab (b + 1) (pc, lv, st, h) P := by
  subst hp
  exact mE_s ht (by simp only [mstep, h0, cond_true, mnx, hv]) k
theorem mE_ldcs (pc1 : Nat) {n : Nat} (ht : tab pc = some (.ldc n, len, q1, q2, q3, q4)) (h0 : Nat.beq q1 0 = false) (hp : pc + 2 = pc1) (k : mE cal scr nL tab b (pc1, lv, .retAddr 0 :: st, h) P) : mE cal scr nL tab (b + 1) (pc, lv, st, h) P := by
  subst hp
  exact mE_s ht (by simp only [mstep, h0, cond_false, mnx]) k
theorem mE_iadd (pc1 : Nat) {x y : Int32} (v : Int32) (ht : tab pc = some (.iadd, len, q1, q2, q3, q4)) (hv : x + y = v) (hp : pc + 1 = pc1) (k : mE cal scr nL tab b (pc1, lv, .int v :: st, h) P) : mE cal scr nL tab (b + 1) (pc, lv, .int y :: .int x :: st, h) P := by
  subst hp
  exact mE_s ht (by simp only [mstep, mbin, mnx, hv]) k
theorem mE_isub (pc1 : Nat) {x y : Int32} (v : Int32) (ht : tab pc = some (.isub, len, q1, q2, q3, q4)) (hv : x - y = v) (hp : pc + 1 = pc1) (k : mE cal scr nL tab b (pc1, lv, .int v :: st, h) P) : mE cal scr nL tab (b + 1) (pc, lv, .int y :: .int x :: st, h) P := by
  subst hp
  exact mE_s ht (by simp only [mstep, mbin, mnx, hv]) k
theorem mE_imul (pc1 : Nat) {x y : Int32} (v : Int32) (ht : tab pc = some (.imul, len, q1, q2, q3, q4)) (hv : x * y = v) (hp : pc + 1 = pc1) (k : mE cal scr nL tab b (pc1, lv, .int v :: st, h) P) : mE cal scr nL tab (b + 1) (pc, lv, .int y :: .int x :: st, h) P := by
  subst hp
  exact mE_s ht (by simp only [mstep, mbin, mnx, hv]) k
theorem mE_iand (pc1 : Nat) {x y : Int32} (v : Int32) (ht : tab pc = some (.iand, len, q1, q2, q3, q4)) (hv : x &&& y = v) (hp : pc + 1 = pc1) (k : mE cal scr nL tab b (pc1, lv, .int v :: st, h) P) : mE cal scr nL tab (b + 1) (pc, lv, .int y :: .int x :: st, h) P := by
  subst hp
  exact mE_s ht (by simp only [mstep, mbin, mnx, hv]) k
theorem mE_ior (pc1 : Nat) {x y : Int32} (v : Int32) (ht : tab pc = some (.ior, len, q1, q2, q3, q4)) (hv : x ||| y = v) (hp : pc + 1 = pc1) (k : mE cal scr nL tab b (pc1, lv, .int v :: st, h) P) : mE cal scr nL tab (b + 1) (pc, lv, .int y :: .int x :: st, h) P := by
  subst hp
  exact mE_s ht (by simp only [mstep, mbin, mnx, hv]) k
theorem mE_ixor (pc1 : Nat) {x y : Int32} (v : Int32) (ht : tab pc = some (.ixor, len, q1, q2, q3, q4)) (hv : x ^^^ y = v) (hp : pc + 1 = pc1) (k : mE cal scr nL tab b (pc1, lv, .int v :: st, h) P) : mE cal scr nL tab (b + 1) (pc, lv, .int y :: .int x :: st, h) P := by
  subst hp
  exact mE_s ht (by simp only [mstep, mbin, mnx, hv]) k
theorem mE_ishl (pc1 : Nat) {x y : Int32} (v : Int32) (ht : tab pc = some (.ishl, len, q1, q2, q3, q4)) (hv : x <<< (y &&& 31) = v) (hp : pc + 1 = pc1) (k : mE cal scr nL tab b (pc1, lv, .int v :: st, h) P) : mE cal scr nL tab (b + 1) (pc, lv, .int y :: .int x :: st, h) P := by
  subst hp
  exact mE_s ht (by simp only [mstep, mbin, mnx, hv]) k
theorem mE_ishr (pc1 : Nat) {x y : Int32} (v : Int32) (ht : tab pc = some (.ishr, len, q1, q2, q3, q4)) (hv : x >>> (y &&& 31) = v) (hp : pc + 1 = pc1) (k : mE cal scr nL tab b (pc1, lv, .int v :: st, h) P) : mE cal scr nL tab (b + 1) (pc, lv, .int y :: .int x :: st, h) P := by
  subst hp
  exact mE_s ht (by simp only [mstep, mbin, mnx, hv]) k
theorem mE_iushr (pc1 : Nat) {x y : Int32} (v : Int32) (ht : tab pc = some (.iushr, len, q1, q2, q3, q4)) (hv : (x.toUInt32 >>> (y.toUInt32 &&& Int32.toUInt32 31)).toInt32 = v) (hp : pc + 1 = pc1) (k : mE cal scr nL tab b (pc1, lv, .int v :: st, h) P) : mE cal scr nL tab (b + 1) (pc, lv, .int y :: .int x :: st, h) P := by
  subst hp
  exact mE_s ht (by simp only [mstep, mbin, mnx, hv]) k
theorem mE_idiv (pc1 : Nat) {x y : Int32} (v : Int32) (ht : tab pc = some (.idiv, len, q1, q2, q3, q4)) (h0 : ¬ y = 0) (hv : x / y = v) (hp : pc + 1 = pc1) (k : mE cal scr nL tab b (pc1, lv, .int v :: st, h) P) : mE cal scr nL tab (b + 1) (pc, lv, .int y :: .int x :: st, h) P := by
  subst hp
  exact mE_s ht (by simp only [mstep, mdiv, if_neg h0, mnx, hv]) k
theorem mE_irem (pc1 : Nat) {x y : Int32} (v : Int32) (ht : tab pc = some (.irem, len, q1, q2, q3, q4)) (h0 : ¬ y = 0) (hv : x - x / y * y = v) (hp : pc + 1 = pc1) (k : mE cal scr nL tab b (pc1, lv, .int v :: st, h) P) : mE cal scr nL tab (b + 1) (pc, lv, .int y :: .int x :: st, h) P := by
  subst hp
  exact mE_s ht (by simp only [mstep, mdiv, if_neg h0, mnx, hv]) k
theorem mE_ineg (pc1 : Nat) {x : Int32} (v : Int32) (ht : tab pc = some (.ineg, len, q1, q2, q3, q4)) (hv : -x = v) (hp : pc + 1 = pc1) (k : mE cal scr nL tab b (pc1, lv, .int v :: st, h) P) : mE cal scr nL tab (b + 1) (pc, lv, .int x :: st, h) P := by
  subst hp
  exact mE_s ht (by simp only [mstep, mun, mnx, hv]) k
theorem mE_i2c (pc1 : Nat) {x : Int32} (v : Int32) (ht : tab pc = some (.i2c, len, q1, q2, q3, q4)) (hv : (x.toUInt32 % 65536).toInt32 = v) (hp : pc + 1 = pc1) (k : mE cal scr nL tab b (pc1, lv, .int v :: st, h) P) : mE cal scr nL tab (b + 1) (pc, lv, .int x :: st, h) P := by
  subst hp
  exact mE_s ht (by simp only [mstep, mun, mnx, hv]) k
theorem mE_i2b (pc1 : Nat) {x : Int32} (v : Int32) (ht : tab pc = some (.i2b, len, q1, q2, q3, q4)) (hv : x.toInt8.toInt32 = v) (hp : pc + 1 = pc1) (k : mE cal scr nL tab b (pc1, lv, .int v :: st, h) P) : mE cal scr nL tab (b + 1) (pc, lv, .int x :: st, h) P := by
  subst hp
  exact mE_s ht (by simp only [mstep, mun, mnx, hv]) k
theorem mE_iinc (pc1 : Nat) {i : Nat} {n : Int} {x : Int32} (v : Int32) (lv1 : mL) (ht : tab pc = some (.iinc i n, len, q1, q2, q3, q4)) (hg : mget lv i = some (.int x)) (hi : Nat.blt i nL = true) (hv : x + Int32.ofInt n = v) (hl : mput lv i (.int v) = lv1) (hp : pc + 3 = pc1) (k : mE cal scr nL tab b (pc1, lv1, st, h) P) : mE cal scr nL tab (b + 1) (pc, lv, st, h) P := by
  subst hp
  exact mE_s ht (by simp only [mstep, hg, hi, cond_true, mnx, hv, hl]) k
theorem mE_dup (pc1 : Nat) {v : Value} (ht : tab pc = some (.dup, len, q1, q2, q3, q4)) (hv : mone v = true) (hp : pc + 1 = pc1) (k : mE cal scr nL tab b (pc1, lv, v :: v :: st, h) P) : mE cal scr nL tab (b + 1) (pc, lv, v :: st, h) P := by
  subst hp
  exact mE_s ht (by simp only [mstep, hv, cond_true, mnx]) k
theorem mE_dup2 (pc1 : Nat) {v w : Value} (ht : tab pc = some (.dup2, len, q1, q2, q3, q4)) (hv : (mone v && mone w) = true) (hp : pc + 1 = pc1) (k : mE cal scr nL tab b (pc1, lv, v :: w :: v :: w :: st, h) P) : mE cal scr nL tab (b + 1) (pc, lv, v :: w :: st, h) P := by
  subst hp
  exact mE_s ht (by simp only [mstep, hv, cond_true, mnx]) k
theorem mE_pop (pc1 : Nat) {v : Value} (ht : tab pc = some (.pop, len, q1, q2, q3, q4)) (hv : mone v = true) (hp : pc + 1 = pc1) (k : mE cal scr nL tab b (pc1, lv, st, h) P) : mE cal scr nL tab (b + 1) (pc, lv, v :: st, h) P := by
  subst hp
  exact mE_s ht (by simp only [mstep, hv, cond_true, mnx]) k
theorem mE_goto (pc1 : Nat) {off : Int} (ht : tab pc = some (.goto off, len, q1, q2, q3, q4))  (hp : q1 = pc1) (k : mE cal scr nL tab b (pc1, lv, st, h) P) : mE cal scr nL tab (b + 1) (pc, lv, st, h) P := by
  subst hp
  exact mE_s ht (by simp only [mstep, mnx]) k
theorem mE_if_eq_t (pc1 : Nat) {x : Int32} {off : Int} (ht : tab pc = some (.ifCond .eq off, len, q1, q2, q3, q4)) (hc : x = 0) (hp : q1 = pc1) (k : mE cal scr nL tab b (pc1, lv, st, h) P) : mE cal scr nL tab (b + 1) (pc, lv, .int x :: st, h) P := by
  subst hp
  exact mE_s ht (by simp only [mstep, mif, if_pos hc, mnx]) k
theorem mE_if_eq_f (pc1 : Nat) {x : Int32} {off : Int} (ht : tab pc = some (.ifCond .eq off, len, q1, q2, q3, q4)) (hc : ¬ (x = 0)) (hp : pc + 3 = pc1) (k : mE cal scr nL tab b (pc1, lv, st, h) P) : mE cal scr nL tab (b + 1) (pc, lv, .int x :: st, h) P := by
  subst hp
  exact mE_s ht (by simp only [mstep, mif, if_neg hc, mnx]) k
theorem mE_if_eq {x : Int32} {off : Int} (ht : tab pc = some (.ifCond .eq off, len, q1, q2, q3, q4)) (k1 : x = 0 → mE cal scr nL tab b (q1, lv, st, h) P) (k2 : ¬ (x = 0) → mE cal scr nL tab b (pc + 3, lv, st, h) P) : mE cal scr nL tab (b + 1) (pc, lv, .int x :: st, h) P := by
  by_cases hc : x = 0
  · exact mE_if_eq_t _ ht hc rfl (k1 hc)
  · exact mE_if_eq_f _ ht hc rfl (k2 hc)
theorem mE_if_ne_t (pc1 : Nat) {x : Int32} {off : Int} (ht : tab pc = some (.ifCond .ne off, len, q1, q2, q3, q4)) (hc : ¬ x = 0) (hp : q1 = pc1) (k : mE cal scr nL tab b (pc1, lv, st, h) P) : mE cal scr nL tab (b + 1) (pc, lv, .int x :: st, h) P := by
  subst hp
  exact mE_s ht (by simp only [mstep, mif, if_pos hc, mnx]) k
theorem mE_if_ne_f (pc1 : Nat) {x : Int32} {off : Int} (ht : tab pc = some (.ifCond .ne off, len, q1, q2, q3, q4)) (hc : ¬ (¬ x = 0)) (hp : pc + 3 = pc1) (k : mE cal scr nL tab b (pc1, lv, st, h) P) : mE cal scr nL tab (b + 1) (pc, lv, .int x :: st, h) P := by
  subst hp
  exact mE_s ht (by simp only [mstep, mif, if_neg hc, mnx]) k
theorem mE_if_ne {x : Int32} {off : Int} (ht : tab pc = some (.ifCond .ne off, len, q1, q2, q3, q4)) (k1 : ¬ x = 0 → mE cal scr nL tab b (q1, lv, st, h) P) (k2 : ¬ (¬ x = 0) → mE cal scr nL tab b (pc + 3, lv, st, h) P) : mE cal scr nL tab (b + 1) (pc, lv, .int x :: st, h) P := by
  by_cases hc : ¬ x = 0
  · exact mE_if_ne_t _ ht hc rfl (k1 hc)
  · exact mE_if_ne_f _ ht hc rfl (k2 hc)
theorem mE_if_lt_t (pc1 : Nat) {x : Int32} {off : Int} (ht : tab pc = some (.ifCond .lt off, len, q1, q2, q3, q4)) (hc : x < 0) (hp : q1 = pc1) (k : mE cal scr nL tab b (pc1, lv, st, h) P) : mE cal scr nL tab (b + 1) (pc, lv, .int x :: st, h) P := by
  subst hp
  exact mE_s ht (by simp only [mstep, mif, if_pos hc, mnx]) k
theorem mE_if_lt_f (pc1 : Nat) {x : Int32} {off : Int} (ht : tab pc = some (.ifCond .lt off, len, q1, q2, q3, q4)) (hc : ¬ (x < 0)) (hp : pc + 3 = pc1) (k : mE cal scr nL tab b (pc1, lv, st, h) P) : mE cal scr nL tab (b + 1) (pc, lv, .int x :: st, h) P := by
  subst hp
  exact mE_s ht (by simp only [mstep, mif, if_neg hc, mnx]) k
theorem mE_if_lt {x : Int32} {off : Int} (ht : tab pc = some (.ifCond .lt off, len, q1, q2, q3, q4)) (k1 : x < 0 → mE cal scr nL tab b (q1, lv, st, h) P) (k2 : ¬ (x < 0) → mE cal scr nL tab b (pc + 3, lv, st, h) P) : mE cal scr nL tab (b + 1) (pc, lv, .int x :: st, h) P := by
  by_cases hc : x < 0
  · exact mE_if_lt_t _ ht hc rfl (k1 hc)
  · exact mE_if_lt_f _ ht hc rfl (k2 hc)
theorem mE_if_ge_t (pc1 : Nat) {x : Int32} {off : Int} (ht : tab pc = some (.ifCond .ge off, len, q1, q2, q3, q4)) (hc : 0 ≤ x) (hp : q1 = pc1) (k : mE cal scr nL tab b (pc1, lv, st, h) P) : mE cal scr nL tab (b + 1) (pc, lv, .int x :: st, h) P := by
  subst hp
  exact mE_s ht (by simp only [mstep, mif, if_pos hc, mnx]) k
theorem mE_if_ge_f (pc1 : Nat) {x : Int32} {off : Int} (ht : tab pc = some (.ifCond .ge off, len, q1, q2, q3, q4)) (hc : ¬ (0 ≤ x)) (hp : pc + 3 = pc1) (k : mE cal scr nL tab b (pc1, lv, st, h) P) : mE cal scr nL tab (b + 1) (pc, lv, .int x :: st, h) P := by
  subst hp
  exact mE_s ht (by simp only [mstep, mif, if_neg hc, mnx]) k
theorem mE_if_ge {x : Int32} {off : Int} (ht : tab pc = some (.ifCond .ge off, len, q1, q2, q3, q4)) (k1 : 0 ≤ x → mE cal scr nL tab b (q1, lv, st, h) P) (k2 : ¬ (0 ≤ x) → mE cal scr nL tab b (pc + 3, lv, st, h) P) : mE cal scr nL tab (b + 1) (pc, lv, .int x :: st, h) P := by
  by_cases hc : 0 ≤ x
  · exact mE_if_ge_t _ ht hc rfl (k1 hc)
  · exact mE_if_ge_f _ ht hc rfl (k2 hc)
theorem mE_if_gt_t (pc1 : Nat) {x : Int32} {off : Int} (ht : tab pc = some (.ifCond .gt off, len, q1, q2, q3, q4)) (hc : 0 < x) (hp : q1 = pc1) (k : mE cal scr nL tab b (pc1, lv, st, h) P) : mE cal scr nL tab (b + 1) (pc, lv, .int x :: st, h) P := by
  subst hp
  exact mE_s ht (by simp only [mstep, mif, if_pos hc, mnx]) k
theorem mE_if_gt_f (pc1 : Nat) {x : Int32} {off : Int} (ht : tab pc = some (.ifCond .gt off, len, q1, q2, q3, q4)) (hc : ¬ (0 < x)) (hp : pc + 3 = pc1) (k : mE cal scr nL tab b (pc1, lv, st, h) P) : mE cal scr nL tab (b + 1) (pc, lv, .int x :: st, h) P := by
  subst hp
  exact mE_s ht (by simp only [mstep, mif, if_neg hc, mnx]) k
theorem mE_if_gt {x : Int32} {off : Int} (ht : tab pc = some (.ifCond .gt off, len, q1, q2, q3, q4)) (k1 : 0 < x → mE cal scr nL tab b (q1, lv, st, h) P) (k2 : ¬ (0 < x) → mE cal scr nL tab b (pc + 3, lv, st, h) P) : mE cal scr nL tab (b + 1) (pc, lv, .int x :: st, h) P := by
  by_cases hc : 0 < x
  · exact mE_if_gt_t _ ht hc rfl (k1 hc)
  · exact mE_if_gt_f _ ht hc rfl (k2 hc)
theorem mE_if_le_t (pc1 : Nat) {x : Int32} {off : Int} (ht : tab pc = some (.ifCond .le off, len, q1, q2, q3, q4)) (hc : x ≤ 0) (hp : q1 = pc1) (k : mE cal scr nL tab b (pc1, lv, st, h) P) : mE cal scr nL tab (b + 1) (pc, lv, .int x :: st, h) P := by
  subst hp
  exact mE_s ht (by simp only [mstep, mif, if_pos hc, mnx]) k
theorem mE_if_le_f (pc1 : Nat) {x : Int32} {off : Int} (ht : tab pc = some (.ifCond .le off, len, q1, q2, q3, q4)) (hc : ¬ (x ≤ 0)) (hp : pc + 3 = pc1) (k : mE cal scr nL tab b (pc1, lv, st, h) P) : mE cal scr nL tab (b + 1) (pc, lv, .int x :: st, h) P := by
  subst hp
  exact mE_s ht (by simp only [mstep, mif, if_neg hc, mnx]) k
theorem mE_if_le {x : Int32} {off : Int} (ht : tab pc = some (.ifCond .le off, len, q1, q2, q3, q4)) (k1 : x ≤ 0 → mE cal scr nL tab b (q1, lv, st, h) P) (k2 : ¬ (x ≤ 0) → mE cal scr nL tab b (pc + 3, lv, st, h) P) : mE cal scr nL tab (b + 1) (pc, lv, .int x :: st, h) P := by
  by_cases hc : x ≤ 0
  · exact mE_if_le_t _ ht hc rfl (k1 hc)
  · exact mE_if_le_f _ ht hc rfl (k2 hc)
theorem mE_ic_eq_t (pc1 : Nat) {x y : Int32} {off : Int} (ht : tab pc = some (.if_icmp .eq off, len, q1, q2, q3, q4)) (hc : x = y) (hp : q1 = pc1) (k : mE cal scr nL tab b (pc1, lv, st, h) P) : mE cal scr nL tab (b + 1) (pc, lv, .int y :: .int x :: st, h) P := by
  subst hp
  exact mE_s ht (by simp only [mstep, mif2, if_pos hc, mnx]) k
theorem mE_ic_eq_f (pc1 : Nat) {x y : Int32} {off : Int} (ht : tab pc = some (.if_icmp .eq off, len, q1, q2, q3, q4)) (hc : ¬ (x = y)) (hp : pc + 3 = pc1) (k : mE cal scr nL tab b (pc1, lv, st, h) P) : mE cal scr nL tab (b + 1) (pc, lv, .int y :: .int x :: st, h) P := by
  subst hp
  exact mE_s ht (by simp only [mstep, mif2, if_neg hc, mnx]) k
theorem mE_ic_eq {x y : Int32} {off : Int} (ht : tab pc = some (.if_icmp .eq off, len, q1, q2, q3, q4)) (k1 : x = y → mE cal scr nL tab b (q1, lv, st, h) P) (k2 : ¬ (x = y) → mE cal scr nL tab b (pc + 3, lv, st, h) P) : mE cal scr nL tab (b + 1) (pc, lv, .int y :: .int x :: st, h) P := by
  by_cases hc : x = y
  · exact mE_ic_eq_t _ ht hc rfl (k1 hc)
  · exact mE_ic_eq_f _ ht hc rfl (k2 hc)
theorem mE_ic_ne_t (pc1 : Nat) {x y : Int32} {off : Int} (ht : tab pc = some (.if_icmp .ne off, len, q1, q2, q3, q4)) (hc : ¬ x = y) (hp : q1 = pc1) (k : mE cal scr nL tab b (pc1, lv, st, h) P) : mE cal scr nL tab (b + 1) (pc, lv, .int y :: .int x :: st, h) P := by
  subst hp
  exact mE_s ht (by simp only [mstep, mif2, if_pos hc, mnx]) k
theorem mE_ic_ne_f (pc1 : Nat) {x y : Int32} {off : Int} (ht : tab pc = some (.if_icmp .ne off, len, q1, q2, q3, q4)) (hc : ¬ (¬ x = y)) (hp : pc + 3 = pc1) (k : mE cal scr nL tab b (pc1, lv, st, h) P) : mE cal scr nL tab (b + 1) (pc, lv, .int y :: .int x :: st, h) P := by
  subst hp
  exact mE_s ht (by simp only [mstep, mif2, if_neg hc, mnx]) k
theorem mE_ic_ne {x y : Int32} {off : Int} (ht : tab pc = some (.if_icmp .ne off, len, q1, q2, q3, q4)) (k1 : ¬ x = y → mE cal scr nL tab b (q1, lv, st, h) P) (k2 : ¬ (¬ x = y) → mE cal scr nL tab b (pc + 3, lv, st, h) P) : mE cal scr nL tab (b + 1) (pc, lv, .int y :: .int x :: st, h) P := by
  by_cases hc : ¬ x = y
  · exact mE_ic_ne_t _ ht hc rfl (k1 hc)
  · exact mE_ic_ne_f _ ht hc rfl (k2 hc)
theorem mE_ic_lt_t (pc1 : Nat) {x y : Int32} {off : Int} (ht : tab pc = some (.if_icmp .lt off, len, q1, q2, q3, q4)) (hc : x < y) (hp : q1 = pc1) (k : mE cal scr nL tab b (pc1, lv, st, h) P) : mE cal scr nL tab (b + 1) (pc, lv, .int y :: .int x :: st, h) P := by
  subst hp
  exact mE_s ht (by simp only [mstep, mif2, if_pos hc, mnx]) k
theorem mE_ic_lt_f (pc1 : Nat) {x y : Int32} {off : Int} (ht : tab pc = some (.if_icmp .lt off, len, q1, q2, q3, q4)) (hc : ¬ (x < y)) (hp : pc + 3 = pc1) (k : mE cal scr nL tab b (pc1, lv, st, h) P) : mE cal scr nL tab (b + 1) (pc, lv, .int y :: .int x :: st, h) P := by
  subst hp
  exact mE_s ht (by simp only [mstep, mif2, if_neg hc, mnx]) k
theorem mE_ic_lt {x y : Int32} {off : Int} (ht : tab pc = some (.if_icmp .lt off, len, q1, q2, q3, q4)) (k1 : x < y → mE cal scr nL tab b (q1, lv, st, h) P) (k2 : ¬ (x < y) → mE cal scr nL tab b (pc + 3, lv, st, h) P) : mE cal scr nL tab (b + 1) (pc, lv, .int y :: .int x :: st, h) P := by
  by_cases hc : x < y
  · exact mE_ic_lt_t _ ht hc rfl (k1 hc)
  · exact mE_ic_lt_f _ ht hc rfl (k2 hc)
theorem mE_ic_ge_t (pc1 : Nat) {x y : Int32} {off : Int} (ht : tab pc = some (.if_icmp .ge off, len, q1, q2, q3, q4)) (hc : y ≤ x) (hp : q1 = pc1) (k : mE cal scr nL tab b (pc1, lv, st, h) P) : mE cal scr nL tab (b + 1) (pc, lv, .int y :: .int x :: st, h) P := by
  subst hp
  exact mE_s ht (by simp only [mstep, mif2, if_pos hc, mnx]) k
theorem mE_ic_ge_f (pc1 : Nat) {x y : Int32} {off : Int} (ht : tab pc = some (.if_icmp .ge off, len, q1, q2, q3, q4)) (hc : ¬ (y ≤ x)) (hp : pc + 3 = pc1) (k : mE cal scr nL tab b (pc1, lv, st, h) P) : mE cal scr nL tab (b + 1) (pc, lv, .int y :: .int x :: st, h) P := by
  subst hp
  exact mE_s ht (by simp only [mstep, mif2, if_neg hc, mnx]) k
theorem mE_ic_ge {x y : Int32} {off : Int} (ht : tab pc = some (.if_icmp .ge off, len, q1, q2, q3, q4)) (k1 : y ≤ x → mE cal scr nL tab b (q1, lv, st, h) P) (k2 : ¬ (y ≤ x) → mE cal scr nL tab b (pc + 3, lv, st, h) P) : mE cal scr nL tab (b + 1) (pc, lv, .int y :: .int x :: st, h) P := by
  by_cases hc : y ≤ x
  · exact mE_ic_ge_t _ ht hc rfl (k1 hc)
  · exact mE_ic_ge_f _ ht hc rfl (k2 hc)
theorem mE_ic_gt_t (pc1 : Nat) {x y : Int32} {off : Int} (ht : tab pc = some (.if_icmp .gt off, len, q1, q2, q3, q4)) (hc : y < x) (hp : q1 = pc1) (k : mE cal scr nL tab b (pc1, lv, st, h) P) : mE cal scr nL tab (b + 1) (pc, lv, .int y :: .int x :: st, h) P := by
  subst hp
  exact mE_s ht (by simp only [mstep, mif2, if_pos hc, mnx]) k
theorem mE_ic_gt_f (pc1 : Nat) {x y : Int32} {off : Int} (ht : tab pc = some (.if_icmp .gt off, len, q1, q2, q3, q4)) (hc : ¬ (y < x)) (hp : pc + 3 = pc1) (k : mE cal scr nL tab b (pc1, lv, st, h) P) : mE cal scr nL tab (b + 1) (pc, lv, .int y :: .int x :: st, h) P := by
  subst hp
  exact mE_s ht (by simp only [mstep, mif2, if_neg hc, mnx]) k
theorem mE_ic_gt {x y : Int32} {off : Int} (ht : tab pc = some (.if_icmp .gt off, len, q1, q2, q3, q4)) (k1 : y < x → mE cal scr nL tab b (q1, lv, st, h) P) (k2 : ¬ (y < x) → mE cal scr nL tab b (pc + 3, lv, st, h) P) : mE cal scr nL tab (b + 1) (pc, lv, .int y :: .int x :: st, h) P := by
  by_cases hc : y < x
  · exact mE_ic_gt_t _ ht hc rfl (k1 hc)
  · exact mE_ic_gt_f _ ht hc rfl (k2 hc)
theorem mE_ic_le_t (pc1 : Nat) {x y : Int32} {off : Int} (ht : tab pc = some (.if_icmp .le off, len, q1, q2, q3, q4)) (hc : x ≤ y) (hp : q1 = pc1) (k : mE cal scr nL tab b (pc1, lv, st, h) P) : mE cal scr nL tab (b + 1) (pc, lv, .int y :: .int x :: st, h) P := by
  subst hp
  exact mE_s ht (by simp only [mstep, mif2, if_pos hc, mnx]) k
theorem mE_ic_le_f (pc1 : Nat) {x y : Int32} {off : Int} (ht : tab pc = some (.if_icmp .le off, len, q1, q2, q3, q4)) (hc : ¬ (x ≤ y)) (hp : pc + 3 = pc1) (k : mE cal scr nL tab b (pc1, lv, st, h) P) : mE cal scr nL tab (b + 1) (pc, lv, .int y :: .int x :: st, h) P := by
  subst hp
  exact mE_s ht (by simp only [mstep, mif2, if_neg hc, mnx]) k
theorem mE_ic_le {x y : Int32} {off : Int} (ht : tab pc = some (.if_icmp .le off, len, q1, q2, q3, q4)) (k1 : x ≤ y → mE cal scr nL tab b (q1, lv, st, h) P) (k2 : ¬ (x ≤ y) → mE cal scr nL tab b (pc + 3, lv, st, h) P) : mE cal scr nL tab (b + 1) (pc, lv, .int y :: .int x :: st, h) P := by
  by_cases hc : x ≤ y
  · exact mE_ic_le_t _ ht hc rfl (k1 hc)
  · exact mE_ic_le_f _ ht hc rfl (k2 hc)
theorem mE_ac_eq_t (pc1 : Nat) {x y : Value} {off : Int} {a e : Option Nat} (ht : tab pc = some (.if_acmp .eq off, len, q1, q2, q3, q4)) (ha : mrq x = some a) (he : mrq y = some e) (hc : (decide (a = e) == true) = true) (hp : q1 = pc1) (k : mE cal scr nL tab b (pc1, lv, st, h) P) : mE cal scr nL tab (b + 1) (pc, lv, y :: x :: st, h) P := by
  subst hp
  exact mE_s ht (by simp only [mstep, mifa, ha, he, hc, cond_true, mnx]) k
theorem mE_ac_eq_f (pc1 : Nat) {x y : Value} {off : Int} {a e : Option Nat} (ht : tab pc = some (.if_acmp .eq off, len, q1, q2, q3, q4)) (ha : mrq x = some a) (he : mrq y = some e) (hc : (decide (a = e) == true) = false) (hp : pc + 3 = pc1) (k : mE cal scr nL tab b (pc1, lv, st, h) P) : mE cal scr nL tab (b + 1) (pc, lv, y :: x :: st, h) P := by
  subst hp
  exact mE_s ht (by simp only [mstep, mifa, ha, he, hc, cond_false, mnx]) k
theorem mE_ac_ne_t (pc1 : Nat) {x y : Value} {off : Int} {a e : Option Nat} (ht : tab pc = some (.if_acmp .ne off, len, q1, q2, q3, q4)) (ha : mrq x = some a) (he : mrq y = some e) (hc : (decide (a = e) == false) = true) (hp : q1 = pc1) (k : mE cal scr nL tab b (pc1, lv, st, h) P) : mE cal scr nL tab (b + 1) (pc, lv, y :: x :: st, h) P := by
  subst hp
  exact mE_s ht (by simp only [mstep, mifa, ha, he, hc, cond_true, mnx]) k
theorem mE_ac_ne_f (pc1 : Nat) {x y : Value} {off : Int} {a e : Option Nat} (ht : tab pc = some (.if_acmp .ne off, len, q1, q2, q3, q4)) (ha : mrq x = some a) (he : mrq y = some e) (hc : (decide (a = e) == false) = false) (hp : pc + 3 = pc1) (k : mE cal scr nL tab b (pc1, lv, st, h) P) : mE cal scr nL tab (b + 1) (pc, lv, y :: x :: st, h) P := by
  subst hp
  exact mE_s ht (by simp only [mstep, mifa, ha, he, hc, cond_false, mnx]) k
theorem mE_nul_n (pc1 : Nat) {off : Int} (ht : tab pc = some (.ifnull off, len, q1, q2, q3, q4))  (hp : q1 = pc1) (k : mE cal scr nL tab b (pc1, lv, st, h) P) : mE cal scr nL tab (b + 1) (pc, lv, .null :: st, h) P := by
  subst hp
  exact mE_s ht (by simp only [mstep, mifn, cond_true, mnx]) k
theorem mE_nul_r (pc1 : Nat) {off : Int} {a : Nat} (ht : tab pc = some (.ifnull off, len, q1, q2, q3, q4))  (hp : pc + 3 = pc1) (k : mE cal scr nL tab b (pc1, lv, st, h) P) : mE cal scr nL tab (b + 1) (pc, lv, .ref a :: st, h) P := by
  subst hp
  exact mE_s ht (by simp only [mstep, mifn, cond_true, mnx]) k
theorem mE_non_n (pc1 : Nat) {off : Int} (ht : tab pc = some (.ifnonnull off, len, q1, q2, q3, q4))  (hp : pc + 3 = pc1) (k : mE cal scr nL tab b (pc1, lv, st, h) P) : mE cal scr nL tab (b + 1) (pc, lv, .null :: st, h) P := by
  subst hp
  exact mE_s ht (by simp only [mstep, mifn, cond_false, mnx]) k
theorem mE_non_r (pc1 : Nat) {off : Int} {a : Nat} (ht : tab pc = some (.ifnonnull off, len, q1, q2, q3, q4))  (hp : q1 = pc1) (k : mE cal scr nL tab b (pc1, lv, st, h) P) : mE cal scr nL tab (b + 1) (pc, lv, .ref a :: st, h) P := by
  subst hp
  exact mE_s ht (by simp only [mstep, mifn, cond_false, mnx]) k
theorem mE_tsw (pc1 : Nat) {df lo hi : Int} {os : Array Int} {x : Int32} {off : Int} (ht : tab pc = some (.tableswitch df lo hi os, len, q1, q2, q3, q4)) (hc : ¬ (x.toInt < lo ∨ hi < x.toInt)) (ho : os[(x.toInt - lo).toNat]? = some off) (h0 : 0 ≤ (pc : Int) + off) (hp : ((pc : Int) + off).toNat = pc1) (k : mE cal scr nL tab b (pc1, lv, st, h) P) : mE cal scr nL tab (b + 1) (pc, lv, .int x :: st, h) P := by
  subst hp
  exact mE_s ht (by simp only [mstep, if_neg hc, ho, msw, if_pos h0, mnx]) k
theorem mE_lsw (pc1 : Nat) {df : Int} {ps : Array (Int × Int)} {x : Int32} {off : Int} (ht : tab pc = some (.lookupswitch df ps, len, q1, q2, q3, q4)) (ho : Op.lookupswitch.offset ps.toList df x.toInt = off) (h0 : 0 ≤ (pc : Int) + off) (hp : ((pc : Int) + off).toNat = pc1) (k : mE cal scr nL tab b (pc1, lv, st, h) P) : mE cal scr nL tab (b + 1) (pc, lv, .int x :: st, h) P := by
  subst hp
  exact mE_s ht (by simp only [mstep, ho, msw, if_pos h0, mnx]) k
theorem mE_gf (pc1 : Nat) {n a : Nat} {fs : List Value} {v : Value} (ht : tab pc = some (.getfield n, len, q1, q2, q3, q4)) (h0 : Nat.beq q1 100 = false) (hc : h.1[a]? = some (.inr (q1, fs))) (hv : fs[q2]? = some v) (hp : pc + 3 = pc1) (k : mE cal scr nL tab b (pc1, lv, v :: st, h) P) : mE cal scr nL tab (b + 1) (pc, lv, .ref a :: st, h) P := by
  subst hp
  exact mE_s ht (by simp only [mstep, h0, cond_false, mgetf, hc, Nat.beq_refl, cond_true, hv, mnx]) k
theorem mE_gs (pc1 : Nat) {n : Nat} (ht : tab pc = some (.getstatic n, len, q1, q2, q3, q4))  (hp : pc + 3 = pc1) (k : mE cal scr nL tab b (pc1, lv, .int 1 :: st, h) P) : mE cal scr nL tab (b + 1) (pc, lv, st, h) P := by
  subst hp
  exact mE_s ht (by simp only [mstep, mnx]) k
theorem mE_gv (pc1 : Nat) {n : Nat} (ht : tab pc = some (.getfield n, len, q1, q2, q3, q4)) (h0 : Nat.beq q1 100 = true) (h1 : Nat.beq q2 0 = true) (hp : pc + 3 = pc1) (k : mE cal scr nL tab b (pc1, lv, .retAddr 2 :: st, h) P) : mE cal scr nL tab (b + 1) (pc, lv, .retAddr 0 :: st, h) P := by
  subst hp
  exact mE_s ht (by simp only [mstep, h0, cond_true, mgets, h1, mnx]) k
theorem mE_gc (pc1 : Nat) {n : Nat} (ht : tab pc = some (.getfield n, len, q1, q2, q3, q4)) (h0 : Nat.beq q1 100 = true) (h1 : Nat.beq q2 0 = false) (hp : pc + 3 = pc1) (k : mE cal scr nL tab b (pc1, lv, .int 0 :: st, h) P) : mE cal scr nL tab (b + 1) (pc, lv, .retAddr 0 :: st, h) P := by
  subst hp
  exact mE_s ht (by simp only [mstep, h0, cond_true, mgets, h1, cond_false, mnx]) k
theorem mE_pf (pc1 : Nat) {n a : Nat} {fs : List Value} {v : Value} (ht : tab pc = some (.putfield n, len, q1, q2, q3, q4)) (hc : h.1[a]? = some (.inr (q1, fs))) (hf : (mfit (mtyOf q1 q2) v && Nat.blt q2 fs.length) = true) (hp : pc + 3 = pc1) (k : mE cal scr nL tab b (pc1, lv, st, (h.1.set a (.inr (q1, fs.set q2 v)), h.2)) P) : mE cal scr nL tab (b + 1) (pc, lv, v :: .ref a :: st, h) P := by
  subst hp
  exact mE_s ht (by simp only [mstep, mputf, hc, Nat.beq_refl, Bool.true_and, hf, cond_true, mnx]) k
theorem mE_new (pc1 : Nat) {n : Nat} (a : Nat) (fs : List Value) (w : Nat) (ht : tab pc = some (.new n, len, q1, q2, q3, q4)) (ha : h.1.length = a) (hf : (List.range (mnof q1)).map (fun k => mdef (mtyOf q1 k)) = fs) (hw : mnof q1 = w) (hp : pc + 3 = pc1) (k : mE cal scr nL tab b (pc1, lv, .ref a :: st, (h.1 ++ [.inr (q1, fs)], h.2 + w)) P) : mE cal scr nL tab (b + 1) (pc, lv, st, h) P := by
  subst ha
  subst hf
  subst hw
  subst hp
  exact mE_s ht rfl k
theorem mE_ila (pc1 : Nat) {i : Int32} {a : Nat} {xs : List Int32} {v : Int32} (ht : tab pc = some (.iaload, len, q1, q2, q3, q4)) (hc : h.1[a]? = some (.inl (0, .inl xs))) (h0 : ¬ i < 0) (hv : xs[i.toNatClampNeg]? = some v) (hp : pc + 1 = pc1) (k : mE cal scr nL tab b (pc1, lv, .int v :: st, h) P) : mE cal scr nL tab (b + 1) (pc, lv, .int i :: .ref a :: st, h) P := by
  subst hp
  exact mE_s ht (by simp only [mstep, mald, hc, Nat.beq_refl, cond_true, if_neg h0, hv, mnx]) k
theorem mE_isc (pc1 : Nat) {i : Int32} {q : Nat × (Nat → Int32)} (v : Int32) (ht : tab pc = some (.iaload, len, q1, q2, q3, q4)) (hc : scr = some q) (h0 : ¬ (i < 0 ∨ q.1 ≤ i.toNatClampNeg)) (hv : q.2 i.toNatClampNeg = v) (hp : pc + 1 = pc1) (k : mE cal scr nL tab b (pc1, lv, .int v :: st, h) P) : mE cal scr nL tab (b + 1) (pc, lv, .int i :: .retAddr 1 :: st, h) P := by
  subst hp
  exact mE_s ht (by simp only [mstep, mald, hc, if_neg h0, hv, mnx]) k
theorem mE_bla (pc1 : Nat) {i : Int32} {a : Nat} {xs : List Int32} {v : Int32} (ht : tab pc = some (.baload, len, q1, q2, q3, q4)) (hc : h.1[a]? = some (.inl (1, .inl xs))) (h0 : ¬ i < 0) (hv : xs[i.toNatClampNeg]? = some v) (hp : pc + 1 = pc1) (k : mE cal scr nL tab b (pc1, lv, .int v :: st, h) P) : mE cal scr nL tab (b + 1) (pc, lv, .int i :: .ref a :: st, h) P := by
  subst hp
  exact mE_s ht (by simp only [mstep, mbld, mald, hc, Nat.beq_refl, cond_true, if_neg h0, hv, mnx]) k
theorem mE_qla (pc1 : Nat) {i : Int32} {a t : Nat} {qs : List (Option Nat)} {v : Option Nat} (ht : tab pc = some (.aaload, len, q1, q2, q3, q4)) (hc : h.1[a]? = some (.inl (t, .inr qs))) (ht2 : (Nat.blt 1 t && Nat.blt t 6) = true) (h0 : ¬ i < 0) (hv : qs[i.toNatClampNeg]? = some v) (hp : pc + 1 = pc1) (k : mE cal scr nL tab b (pc1, lv, mrf v :: st, h) P) : mE cal scr nL tab (b + 1) (pc, lv, .int i :: .ref a :: st, h) P := by
  subst hp
  exact mE_s ht (by simp only [mstep, maldq, hc, ht2, cond_true, if_neg h0, hv, mnx]) k
theorem mE_isa (pc1 : Nat) {i x : Int32} {a : Nat} {xs : List Int32} (j : Nat) (ht : tab pc = some (.iastore, len, q1, q2, q3, q4)) (hc : h.1[a]? = some (.inl (0, .inl xs))) (hj : i.toNatClampNeg = j) (h0 : ¬ (i < 0 ∨ xs.length ≤ j)) (hp : pc + 1 = pc1) (k : mE cal scr nL tab b (pc1, lv, st, (h.1.set a (.inl (0, .inl (xs.set j x))), h.2)) P) : mE cal scr nL tab (b + 1) (pc, lv, .int x :: .int i :: .ref a :: st, h) P := by
  subst hp
  exact mE_s ht (by simp only [mstep, mast, hc, Nat.beq_refl, Bool.true_or, Bool.and_self, cond_true, hj, if_neg h0, mnx]) k
theorem mE_bsa (pc1 : Nat) {i x : Int32} {a : Nat} {xs : List Int32} (j : Nat) (ht : tab pc = some (.bastore, len, q1, q2, q3, q4)) (hc : h.1[a]? = some (.inl (1, .inl xs))) (hx : (Nat.beq 1 0 || (x == 0 || x == 1)) = true) (hj : i.toNatClampNeg = j) (h0 : ¬ (i < 0 ∨ xs.length ≤ j)) (hp : pc + 1 = pc1) (k : mE cal scr nL tab b (pc1, lv, st, (h.1.set a (.inl (1, .inl (xs.set j x))), h.2)) P) : mE cal scr nL tab (b + 1) (pc, lv, .int x :: .int i :: .ref a :: st, h) P := by
  subst hp
  exact mE_s ht (by simp only [mstep, mast, hc, Nat.beq_refl, hx, Bool.and_self, cond_true, hj, if_neg h0, mnx]) k
theorem mE_qsa (pc1 : Nat) {i : Int32} {a v t : Nat} {qs : List (Option Nat)} {fs : List Value} {ci : Nat} (j : Nat) (ht : tab pc = some (.aastore, len, q1, q2, q3, q4)) (hc : h.1[a]? = some (.inl (t, .inr qs))) (hv : h.1[v]? = some (.inr (ci, fs))) (ht2 : (Nat.blt 1 t && (Nat.blt t 6 && Nat.beq ci (mcOf t))) = true) (hj : i.toNatClampNeg = j) (h0 : ¬ (i < 0 ∨ qs.length ≤ j)) (hp : pc + 1 = pc1) (k : mE cal scr nL tab b (pc1, lv, st, (h.1.set a (.inl (t, .inr (qs.set j (some v)))), h.2)) P) : mE cal scr nL tab (b + 1) (pc, lv, .ref v :: .int i :: .ref a :: st, h) P := by
  subst hp
  exact mE_s ht (by simp only [mstep, mastq, hc, hv, ht2, cond_true, hj, if_neg h0, mnx]) k
theorem mE_len (pc1 : Nat) {a t : Nat} {xs : List Int32} (v : Int32) (ht : tab pc = some (.arraylength, len, q1, q2, q3, q4)) (hc : h.1[a]? = some (.inl (t, .inl xs))) (ht2 : Nat.blt t 6 = true) (hv : Int32.ofNat xs.length = v) (hp : pc + 1 = pc1) (k : mE cal scr nL tab b (pc1, lv, .int v :: st, h) P) : mE cal scr nL tab (b + 1) (pc, lv, .ref a :: st, h) P := by
  subst hp
  exact mE_s ht (by simp only [mstep, malen, hc, ht2, cond_true, hv, mnx]) k
theorem mE_lsc (pc1 : Nat) {q : Nat × (Nat → Int32)} (v : Int32) (ht : tab pc = some (.arraylength, len, q1, q2, q3, q4)) (hc : scr = some q) (hv : Int32.ofNat q.1 = v) (hp : pc + 1 = pc1) (k : mE cal scr nL tab b (pc1, lv, .int v :: st, h) P) : mE cal scr nL tab (b + 1) (pc, lv, .retAddr 1 :: st, h) P := by
  subst hp
  exact mE_s ht (by simp only [mstep, malen, hc, hv, mnx]) k
theorem mE_oi (pc1 : Nat) {n a : Nat} (ht : tab pc = some (.invokespecial n, len, q1, q2, q3, q4)) (h0 : q1 = 0) (hr : (Nat.ble st.length 8 && st.all mone) = true) (hp : pc + 3 = pc1) (k : mE cal scr nL tab b (pc1, lv, st, h) P) : mE cal scr nL tab (b + 1) (pc, lv, .ref a :: st, h) P := by
  subst hp
  exact mE_s ht (by simp only [mstep, h0, Nat.blt, Nat.ble, cond_true, mspec, hr, mnx]) k
theorem mE_max (pc1 : Nat) {n : Nat} {x y : Int32} (v : Int32) (ht : tab pc = some (.invokestatic n, len, q1, q2, q3, q4)) (h0 : q1 = 1) (hr : (Nat.ble st.length 8 && st.all mone) = true) (hv : (if x < y then y else x) = v) (hp : pc + 3 = pc1) (k : mE cal scr nL tab b (pc1, lv, .int v :: st, h) P) : mE cal scr nL tab (b + 1) (pc, lv, .int y :: .int x :: st, h) P := by
  subst hp
  exact mE_s ht (by simp only [mstep, h0, Nat.blt, Nat.ble, cond_true, mspec, hr, mnx, hv]) k
theorem mE_min (pc1 : Nat) {n : Nat} {x y : Int32} (v : Int32) (ht : tab pc = some (.invokestatic n, len, q1, q2, q3, q4)) (h0 : q1 = 2) (hr : (Nat.ble st.length 8 && st.all mone) = true) (hv : (if y < x then y else x) = v) (hp : pc + 3 = pc1) (k : mE cal scr nL tab b (pc1, lv, .int v :: st, h) P) : mE cal scr nL tab (b + 1) (pc, lv, .int y :: .int x :: st, h) P := by
  subst hp
  exact mE_s ht (by simp only [mstep, h0, Nat.blt, Nat.ble, cond_true, mspec, hr, mnx, hv]) k
theorem mE_abs (pc1 : Nat) {n : Nat} {x : Int32} (v : Int32) (ht : tab pc = some (.invokestatic n, len, q1, q2, q3, q4)) (h0 : q1 = 3) (hr : (Nat.ble st.length 8 && st.all mone) = true) (hv : (if 0 ≤ x then x else 0 - x) = v) (hp : pc + 3 = pc1) (k : mE cal scr nL tab b (pc1, lv, .int v :: st, h) P) : mE cal scr nL tab (b + 1) (pc, lv, .int x :: st, h) P := by
  subst hp
  exact mE_s ht (by simp only [mstep, h0, Nat.blt, Nat.ble, cond_true, mspec, hr, mnx, hv]) k
theorem mE_cv {n y k : Nat} (As : List Value) (rest : List Value) {fs : List Value} (ht : tab pc = some (.invokevirtual n, len, y, q2, q3, q4)) (h0 : Nat.blt y 10 = false) (hd : st.drop q2 = .ref k :: rest) (ha : (st.take q2).reverse = As) (hc : h.1[k]? = some (.inr (mcl100 q3, fs))) (hr : (Nat.ble q2 st.length && (Nat.ble rest.length 8 && (rest.all mone && (st.take q2).all mone))) = true) (hk : mR d (y - 10) (.ref k :: As) h (fun r h' => mE (mcall d) scr nL tab b (pc + 3, lv, r.toList ++ rest, h') P)) : mE (mcall d) scr nL tab (b + 1) (pc, lv, st, h) P := by
  subst ha
  exact mE_call (s := (pc, lv, st, h)) ht (by simp only [mstep, h0, cond_false, minv, show Nat.blt 0 2 = true from rfl, cond_true, hd, hc, Nat.beq_refl, Bool.true_and, hr]) hk
theorem mE_ci {n y k : Nat} (As : List Value) (rest : List Value) {fs : List Value} (ht : tab pc = some (.invokespecial n, len, y, q2, q3, q4)) (h0 : Nat.blt y 10 = false) (hd : st.drop q2 = .ref k :: rest) (ha : (st.take q2).reverse = As) (hc : h.1[k]? = some (.inr (mcl100 q3, fs))) (hr : (Nat.ble q2 st.length && (Nat.ble rest.length 8 && (rest.all mone && (st.take q2).all mone))) = true) (hk : mR d (y - 10) (.ref k :: As) h (fun r h' => mE (mcall d) scr nL tab b (pc + 3, lv, r.toList ++ rest, h') P)) : mE (mcall d) scr nL tab (b + 1) (pc, lv, st, h) P := by
  subst ha
  exact mE_call (s := (pc, lv, st, h)) ht (by simp only [mstep, h0, cond_false, minv, show Nat.blt 1 2 = true from rfl, cond_true, hd, hc, Nat.beq_refl, Bool.true_and, hr]) hk
theorem mE_cs {n y : Nat} (As : List Value) (rest : List Value) (ht : tab pc = some (.invokestatic n, len, y, q2, q3, q4)) (h0 : Nat.blt y 10 = false) (hd : st.drop q2 = rest) (ha : (st.take q2).reverse = As) (hr : (Nat.ble q2 st.length && (Nat.ble rest.length 8 && (rest.all mone && (st.take q2).all mone))) = true) (hk : mR d (y - 10) As h (fun r h' => mE (mcall d) scr nL tab b (pc + 3, lv, r.toList ++ rest, h') P)) : mE (mcall d) scr nL tab (b + 1) (pc, lv, st, h) P := by
  subst ha
  subst hd
  exact mE_call (s := (pc, lv, st, h)) ht (by simp only [mstep, h0, cond_false, minv, show Nat.blt 2 2 = false from rfl, cond_false, hr, cond_true]) hk
theorem mE_iret {x : Int32} (ht : tab pc = some (.ireturn, len, q1, q2, q3, q4)) (k : P (some (.int x)) h) : mE cal scr nL tab (b + 1) (pc, lv, [.int x], h) P :=
  mE_ret (s := (pc, lv, [.int x], h)) ht (by simp only [mstep]) k
theorem mE_arn (ht : tab pc = some (.areturn, len, q1, q2, q3, q4)) (k : P (some .null) h) : mE cal scr nL tab (b + 1) (pc, lv, [.null], h) P :=
  mE_ret (s := (pc, lv, [.null], h)) ht (by simp only [mstep, cond_true]) k
theorem mE_arr {a : Nat} (ht : tab pc = some (.areturn, len, q1, q2, q3, q4)) (k : P (some (.ref a)) h) : mE cal scr nL tab (b + 1) (pc, lv, [.ref a], h) P :=
  mE_ret (s := (pc, lv, [.ref a], h)) ht (by simp only [mstep, cond_true]) k
theorem mE_vret (ht : tab pc = some (.return_, len, q1, q2, q3, q4)) (k : P none h) : mE cal scr nL tab (b + 1) (pc, lv, [], h) P :=
  mE_ret (s := (pc, lv, [], h)) ht (by simp only [mstep]) k
theorem mR_ix {y : Nat} {as : List Value} {Y : MethodName} {C : ByteArray} {nL : Nat} {ret : Option FieldType} {t : Nat → Option mI} {own np L : Nat} (lv0 : mL) (hM : mmOf y = some (Y, C, nL, ret, t, own, np, L)) (ha : (Nat.ble as.length nL && as.all mone) = true) (hl : lv_args 0 as = lv0) (hO : mE (mcall d) none nL (mgd L t) mfuel (0, lv0, [], h) (fun r h' => mretok ret r = true ∧ P r h')) : mR (d + 1) y as h P := by
  subst hl
  exact mR_in _ hM ha hO
end MRI
theorem mE_tsw0 {cal : Nat → List Value → mS → Option (Option Value × mS)} {scr : Option (Nat × (Nat → Int32))} {nL : Nat} {tab : Nat → Option mI} {b : Nat} {P : Option Value → mS → Prop} {pc : Nat} {lv : mL} {st : List Value} {h : mS} (pc1 : Nat) {df lo hi : Int} {os : Array Int} {q : Nat × Nat × Nat × Nat × Nat} {x : Int32} (ht : tab pc = some (.tableswitch df lo hi os, q)) (hc : x.toInt < lo ∨ hi < x.toInt) (h0 : 0 ≤ (pc : Int) + df) (hp : ((pc : Int) + df).toNat = pc1) (k : mE cal scr nL tab b (pc1, lv, st, h) P) : mE cal scr nL tab (b + 1) (pc, lv, .int x :: st, h) P := by
  subst hp
  exact mE_tswO (s := (pc, lv, .int x :: st, h)) ht rfl hc h0 k
