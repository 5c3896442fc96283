theorem mstep_scr {scr : Option (Nat × (Nat → Int32))} {nL pc : Nat} {lv : mL} {st : List Value} {h : mS} {x : mI} {o : mO} (hs : mstep none nL pc lv st h x = some o) : mstep scr nL pc lv st h x = some o := by
  obtain ⟨i, len, a, b, c3, d⟩ := x
  cases i with
  | arraylength =>
    have hs : malen pc none lv st h = some o := hs
    show malen pc scr lv st h = some o
    unfold malen at hs ⊢
    split at hs
    · exact hs
    · cases hs
    · exact hs
    · cases hs
  | iaload =>
    have hs : mald 0 pc none lv st h = some o := hs
    show mald 0 pc scr lv st h = some o
    unfold mald at hs ⊢
    split at hs
    · exact hs
    · cases hs
    · cases hs
  | if_acmp cd off => cases cd <;> exact hs
  | if_icmp cd off => cases cd <;> exact hs
  | ifCond cd off => cases cd <;> exact hs
  | _ => exact hs
theorem msteps_scr {cal : Nat → List Value → mS → Option (Option Value × mS)} {scr : Option (Nat × (Nat → Int32))} {nL : Nat} {tab : Nat → Option mI} : ∀ (k : Nat) (s s' : mX), msteps cal none nL tab k s = some s' → msteps cal scr nL tab k s = some s' := by
  intro k
  induction k with
  | zero => intro s s' h; exact h
  | succ k ih =>
    intro s s' h
    obtain ⟨pc, lv, st, hp⟩ := s
    unfold msteps at h ⊢
    split at h
    · cases h
    · rename_i x hx
      split at h
      · cases h
      · rename_i s1 hs
        simp only [mstep_scr hs]
        exact ih _ _ h
      · cases h
      · rename_i y as rest hs
        simp only [mstep_scr hs]
        split at h
        · cases h
        · exact ih _ _ h
theorem z32 : (0 : Int32).toInt = 0 := by decide
theorem JA_00 : JA mh0.1 := ⟨rfl, 0, _, _, _, rfl, rfl, rfl, rfl, rfl, ⟨by decide, by decide, rfl, fun k b q => by rw [z32] at q; omega⟩, rfl, fun k q => by rw [z32] at q; omega⟩
def A00 (q : Nat) : Nat := if q = 0 then 10 else if q = 1 then 30 else 37
def B00 (q : Nat) : Nat := if q = 0 then 27 else if q = 1 then 34 else 41
theorem DS_00 : DS A00 B00 44 := by
  refine ⟨by decide, fun q hq => ?_⟩
  match q, hq with
  | 0, _ =>
    refine ⟨⟨by decide, by decide⟩, ⟨by decide, by decide, by decide⟩, fun p hp hpq => ?_⟩
    match p, hp, hpq with
    | 0, _, hpq => exact absurd rfl hpq
    | 1, _, _ => exact ⟨by decide, by decide, by decide, by decide⟩
    | 2, _, _ => exact ⟨by decide, by decide, by decide, by decide⟩
    | p + 3, hp, _ => omega
  | 1, _ =>
    refine ⟨⟨by decide, by decide⟩, ⟨by decide, by decide, by decide⟩, fun p hp hpq => ?_⟩
    match p, hp, hpq with
    | 0, _, _ => exact ⟨by decide, by decide, by decide, by decide⟩
    | 1, _, hpq => exact absurd rfl hpq
    | 2, _, _ => exact ⟨by decide, by decide, by decide, by decide⟩
    | p + 3, hp, _ => omega
  | 2, _ =>
    refine ⟨⟨by decide, by decide⟩, ⟨by decide, by decide, by decide⟩, fun p hp hpq => ?_⟩
    match p, hp, hpq with
    | 0, _, _ => exact ⟨by decide, by decide, by decide, by decide⟩
    | 1, _, _ => exact ⟨by decide, by decide, by decide, by decide⟩
    | 2, _, hpq => exact absurd rfl hpq
    | p + 3, hp, _ => omega
  | q + 3, hq => omega
theorem one_lt {j : Nat} (h : (j : Int) < (1 : Int32).toInt) : j = 0 := by
  have e1 : (1 : Int32).toInt = 1 := by decide
  omega
theorem JL_00 : JL mh0.1 := by
  refine ⟨A00, B00, fun _ => 0, fun _ => 0, 44, _, _, _, 0, ⟨fun q hq => ?_, rfl, ⟨_, _, _, _, _, _, rfl⟩, ⟨rfl, rfl, rfl⟩, _, rfl, rfl⟩, ⟨DS_00, fun t ht => ?_⟩, fun q hq => ?_⟩
  · match q, hq with
    | 0, _ => rfl
    | 1, _ => rfl
    | 2, _ => rfl
    | q + 3, hq => omega
  · rcases List.mem_cons.mp ht with rfl | ht
    · exact ⟨_, _, _, rfl, rfl⟩
    rcases List.mem_cons.mp ht with rfl | ht
    · exact ⟨_, _, _, rfl, rfl⟩
    rcases List.mem_cons.mp ht with rfl | ht
    · exact ⟨_, _, _, rfl, rfl⟩
    rcases List.mem_cons.mp ht with rfl | ht
    · exact ⟨_, _, _, rfl, rfl⟩
    rcases List.mem_cons.mp ht with rfl | ht
    · exact ⟨_, _, _, rfl, rfl⟩
    rcases List.mem_cons.mp ht with rfl | ht
    · exact ⟨_, _, _, rfl, rfl⟩
    rcases List.mem_cons.mp ht with rfl | ht
    · exact ⟨_, _, _, rfl, rfl⟩
    cases ht
  · match q, hq with
    | 0, _ => exact ⟨1, 0, 0, rfl, rfl, rfl, ⟨by decide, by decide⟩, Or.inl ⟨by decide, rfl, 1, _, ⟨_, rfl, rfl⟩, rfl, fun j hj => by rw [one_lt hj]; rfl⟩⟩
    | 1, _ => exact ⟨1, 0, 0, rfl, rfl, rfl, ⟨by decide, by decide⟩, Or.inl ⟨by decide, rfl, 1, _, ⟨_, rfl, rfl⟩, rfl, fun j hj => by rw [one_lt hj]; rfl⟩⟩
    | 2, _ => exact ⟨1, 0, 0, rfl, rfl, rfl, ⟨by decide, by decide⟩, Or.inl ⟨by decide, rfl, 1, _, ⟨_, rfl, rfl⟩, rfl, fun j hj => by rw [one_lt hj]; rfl⟩⟩
    | q + 3, hq => omega
theorem law_run (L : Nat) (hL : L ≤ 2048) (xs : Nat → Int32) : ∃ (n : Nat) (h' : mS), mloop (mcall 720) (some (L, xs)) 4 (mgd mLlaw mtL_law) n 0 [(0, .retAddr 1)] [] ([], 0) = some (some (.int 1), h') ∧ h'.1.length ≤ 600000 ∧ h'.2 ≤ 7302250 := by
  obtain ⟨r, h', h1, rfl, h2, h3⟩ := law_loop (xs := xs) hL (L / 4) 0 0 g00 ρ00 mh0 (by decide) (by omega) (by omega) ⟨Inv_00, ⟨⟨JA_00, JL_00⟩, JS_00, JN_00⟩, JH_00⟩
  refine ⟨100 * (L / 4) + 20 + 10, h', ?_, h2, h3⟩
  rw [mloop_steps 10 (0, [(0, .retAddr 1)], [], ([], 0)) _ (msteps_scr _ _ _ (msteps_cal (fun y as h q hq => mcall_le (by omega) hq) _ _ _ mctor)) (100 * (L / 4) + 20)]
  exact h1
