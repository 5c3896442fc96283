theorem hMs_all : ∀ y M, mmOf y = some M → mMok y M := fun y M hM => mchk1_ok (mkR_all y (mgd_lt hM)) hM
theorem htab_law : ∀ (pc : Nat) (x : mI), mgd mLlaw mtL_law pc = some x → decode code pc = .ok (x.1, x.2.1) ∧ mok RL "law" pc x = true := fun pc x hx => mokAt_at (mkL_all pc (mgd_lt hx)) hx
/-- THE LAW, from its entry -/
theorem whole_start {p : Program} {e : Env} {s : State} {m : MethodId} {below : List Frame} {meth : Method} {c : Code} (l : Launch) {b L : Nat} {xs : Nat → Int32} (hL : L ≤ 2048) (C0 : lw_At p s m meth c b L xs) : W p l e room_1 s m #[Value.ref b] below meth c s.heap [] 0 0 (lw_Z below #[Value.ref b] s) (entryFrame m ([Value.ref b] : List Value).toArray 4) := by
  obtain ⟨n, h', h1, h2, h3⟩ := law_run L hL xs
  exact mlaw_ok l C0 hMs_all htab_law (by decide) h1 h2 h3
