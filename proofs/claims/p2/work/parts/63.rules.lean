/-! TYPED RULES, an instruction each -/
section TT
variable {rI : Nat → Option aR} {g : Nat → Int} {rl : List Int32} {ρ : List Nat} {cal : Nat → List Value → mS → Option (Option Value × mS)} {scr : Option (Nat × (Nat → Int32))} {nL : Nat} {tab : Nat → Option mI} {P : Option Value → mS → Prop} {pc N len q1 q2 q3 q4 : Nat} {L : List (Nat × aV)} {K : List aE} {F : List (Nat × aV)}
def mT (rI : Nat → Option aR) (g : Nat → Int) (rl : List Int32) (ρ : List Nat) (cal : Nat → List Value → mS → Option (Option Value × mS)) (scr : Option (Nat × (Nat → Int32))) (nL : Nat) (tab : Nat → Option mI) (pc : Nat) (S : aS) (N : Nat) (P : Option Value → mS → Prop) : Prop :=
  ∀ (lv : mL) (st : List Value) (h : mS), okS rI g rl ρ S lv st h → (∀ q ∈ lv, q.2.category ≠ 2) → ∃ b, b ≤ N ∧ mE cal scr nL tab b (pc, lv, st, h) P
theorem hasE0 {lv : mL} {h : List mC} {t : aV} {v : Value} (hv : hasT g ρ t v) : hasE g ρ lv h (t, 0) v := ⟨hv, fun h1 _ => absurd h1 (Nat.lt_irrefl 0), fun h1 _ => absurd h1 (by show ¬ 1000 ≤ 0; omega), fun h1 => absurd h1 (by show ¬ 2000 ≤ 0; omega)⟩
theorem hasEl {lv : mL} {h : List mC} {t : aV} {v : Value} {l : Nat} (hl : l < 999) (hv : hasT g ρ t v) (hm : mget lv l = some v) : hasE g ρ lv h (t, l + 1) v := ⟨hv, fun _ _ => hm, fun h1 _ => absurd h1 (by show ¬ 1000 ≤ l + 1; omega), fun h1 => absurd h1 (by show ¬ 2000 ≤ l + 1; omega)⟩
theorem tT_ildn (hg : okG g) (pc1 : Nat) {i : Fin 4} {t : aV} (ht : tab pc = some (.iload_n i, len, q1, q2, q3, q4)) (hl : (i.val, t) ∈ L) (hr : (arng t).isSome = true) (hp : pc + 1 = pc1) (k : mT rI g rl ρ cal scr nL tab pc1 (L, (t, i.val + 1) :: K, F) N P) : mT rI g rl ρ cal scr nL tab pc (L, K, F) (N + 1) P := by
  intro lv st h hS hc
  obtain ⟨v, hv, hty⟩ := hS.2.1 _ hl
  obtain ⟨q, hq⟩ := Option.isSome_iff_exists.mp hr
  obtain ⟨x, rfl, -, -⟩ := arng_ok hg hq hty
  have hi := i.isLt
  obtain ⟨b, hb, hE⟩ := k lv (.int x :: st) h ⟨hS.1, hS.2.1, ⟨hasEl (by omega) hty hv, hS.2.2.1⟩, hS.2.2.2⟩ hc
  exact ⟨b + 1, by omega, mE_ildn pc1 ht hv rfl hp hE⟩
theorem tT_ico (pc1 : Nat) {n : Int} (v : Int32) (t : aV) (ht : tab pc = some (.iconst n, len, q1, q2, q3, q4)) (hv : Int32.ofInt n = v) (hty : t = (0, v.toInt, v.toInt)) (hp : pc + 1 = pc1) (k : mT rI g rl ρ cal scr nL tab pc1 (L, (t, 0) :: K, F) N P) : mT rI g rl ρ cal scr nL tab pc (L, K, F) (N + 1) P := by
  subst hty
  intro lv st h hS hc
  obtain ⟨b, hb, hE⟩ := k lv (.int v :: st) h ⟨hS.1, hS.2.1, ⟨hasE0 ⟨v, rfl, Int.le_refl _, Int.le_refl _⟩, hS.2.2.1⟩, hS.2.2.2⟩ hc
  exact ⟨b + 1, by omega, mE_ico pc1 v ht hv hp hE⟩
theorem tT_iadd (hg : okG g) (pc1 : Nat) {s t : aV} {o1 o2 : Nat} {a b c d : Int} (ht : tab pc = some (.iadd, len, q1, q2, q3, q4)) (hs : arng s = some (a, b)) (hr : arng t = some (c, d)) (hp : pc + 1 = pc1) (k : mT rI g rl ρ cal scr nL tab pc1 (L, (aclip (a + c) (b + d), 0) :: K, F) N P) : mT rI g rl ρ cal scr nL tab pc (L, (t, o2) :: (s, o1) :: K, F) (N + 1) P := by
  intro lv st h hS hc
  obtain ⟨h1, h2, h3, h4⟩ := hS
  match st, h3 with
  | v2 :: v1 :: st, ⟨e2, e1, h3⟩ =>
    obtain ⟨y, rfl, y1, y2⟩ := arng_ok hg hr e2.1
    obtain ⟨x, rfl, x1, x2⟩ := arng_ok hg hs e1.1
    obtain ⟨n, hn, hE⟩ := k lv (.int (x + y) :: st) h ⟨h1, h2, ⟨hasE0 (aclip_add x1 x2 y1 y2), h3⟩, h4⟩ hc
    exact ⟨n + 1, by omega, mE_iadd pc1 _ ht rfl hp hE⟩
end TT
