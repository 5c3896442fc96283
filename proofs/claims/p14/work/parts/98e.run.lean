theorem mstep_scr {scr : Option (Nat × (Nat → Int32))} {nL pc : Nat} {lv : mL} {st : List Value} {h : mS} {x : mI} {o : mO} (hs : mstep none nL pc lv st h x = some o) : mstep scr nL pc lv st h x = some o := by
  obtain ⟨i, len, a, b, c3, d⟩ := x
  cases i with
  | arraylength =>
    have hs : malen pc none lv st h = some o := hs
    show malen pc scr lv st h = some o
    unfold malen at hs ⊢
    split at hs
    · exact hs
    · cases hs
    · exact hs
    · cases hs
  | iaload =>
    have hs : mald 0 pc none lv st h = some o := hs
    show mald 0 pc scr lv st h = some o
    unfold mald at hs ⊢
    split at hs
    · exact hs
    · cases hs
    · cases hs
  | if_acmp cd off => cases cd <;> exact hs
  | if_icmp cd off => cases cd <;> exact hs
  | ifCond cd off => cases cd <;> exact hs
  | _ => exact hs
theorem msteps_scr {cal : Nat → List Value → mS → Option (Option Value × mS)} {scr : Option (Nat × (Nat → Int32))} {nL : Nat} {tab : Nat → Option mI} : ∀ (k : Nat) (s s' : mX), msteps cal none nL tab k s = some s' → msteps cal scr nL tab k s = some s' := by
  intro k
  induction k with
  | zero => intro s s' h; exact h
  | succ k ih =>
    intro s s' h
    obtain ⟨pc, lv, st, hp⟩ := s
    unfold msteps at h ⊢
    split at h
    · cases h
    · rename_i x hx
      split at h
      · cases h
      · rename_i s1 hs
        simp only [mstep_scr hs]
        exact ih _ _ h
      · cases h
      · rename_i y as rest hs
        simp only [mstep_scr hs]
        split at h
        · cases h
        · exact ih _ _ h
theorem z32 : (0 : Int32).toInt = 0 := by decide
theorem JA_00 : JA mh0.1 := ⟨rfl, 0, _, _, _, rfl, rfl, rfl, rfl, rfl, ⟨by decide, by decide, rfl, fun k b q => by rw [z32] at q; omega⟩, rfl, fun k q => by rw [z32] at q; omega⟩
theorem law_run (L : Nat) (hL : L ≤ 2048) (xs : Nat → Int32) : ∃ (n : Nat) (h' : mS), mloop (mcall 720) (some (L, xs)) 4 (mgd mLlaw mtL_law) n 0 [(0, .retAddr 1)] [] ([], 0) = some (some (.int 1), h') ∧ h'.1.length ≤ 600000 ∧ h'.2 ≤ 7302250 := by
  obtain ⟨r, h', h1, rfl, h2, h3⟩ := law_loop (xs := xs) hL (L / 4) 0 0 g00 ρ00 mh0 (by decide) (by omega) (by omega) ⟨Inv_00, JA_00⟩
  refine ⟨100 * (L / 4) + 20 + 10, h', ?_, h2, h3⟩
  rw [mloop_steps 10 (0, [(0, .retAddr 1)], [], ([], 0)) _ (msteps_scr _ _ _ (msteps_cal (fun y as h q hq => mcall_le (by omega) hq) _ _ _ mctor)) (100 * (L / 4) + 20)]
  exact h1
