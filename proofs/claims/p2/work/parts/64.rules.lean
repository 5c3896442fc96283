section TU
variable {rI : Nat → Option aR} {g : Nat → Int} {rl : List Int32} {ρ : List Nat} {cal : Nat → List Value → mS → Option (Option Value × mS)} {scr : Option (Nat × (Nat → Int32))} {nL : Nat} {tab : Nat → Option mI} {P : Option Value → mS → Prop} {pc N len q1 q2 q3 q4 : Nat} {L : List (Nat × aV)} {K : List aE} {F : List (Nat × aV)}
/-- types of references -/
def aref (t : aV) : Bool := Nat.beq t.1 3 || (Nat.beq t.1 4 || Nat.beq t.1 5)
theorem aref_ok {t : aV} {v : Value} (h : aref t = true) (hv : hasT g ρ t v) : misref v = true := by
  obtain ⟨t1, ta, tb⟩ := t
  unfold aref at h
  rw [Bool.or_eq_true, Bool.or_eq_true] at h
  rcases h with h | h | h
  · cases (mlen h : t1 = 3)
    obtain ⟨k, rfl, -⟩ := hv
    rfl
  · cases (mlen h : t1 = 4)
    rcases hv with rfl | ⟨k, rfl, -⟩ <;> rfl
  · cases (mlen h : t1 = 5)
    cases hv
    rfl
theorem tT_aldn (pc1 : Nat) {i : Fin 4} {t : aV} (ht : tab pc = some (.aload_n i, len, q1, q2, q3, q4)) (hl : (i.val, t) ∈ L) (hr : aref t = true) (hp : pc + 1 = pc1) (k : mT rI g rl ρ cal scr nL tab pc1 (L, (t, i.val + 1) :: K, F) N P) : mT rI g rl ρ cal scr nL tab pc (L, K, F) (N + 1) P := by
  intro lv st h hS hc
  obtain ⟨v, hv, hty⟩ := hS.2.1 _ hl
  have hi := i.isLt
  obtain ⟨b, hb, hE⟩ := k lv (v :: st) h ⟨hS.1, hS.2.1, ⟨hasEl (by omega) hty hv, hS.2.2.1⟩, hS.2.2.2⟩ hc
  exact ⟨b + 1, by omega, mE_aldn pc1 ht hv (aref_ok hr hty) hp hE⟩
theorem tT_bip (pc1 : Nat) {n : Int} (v : Int32) (t : aV) (ht : tab pc = some (.bipush n, len, q1, q2, q3, q4)) (hv : (Int8.ofInt n).toInt32 = v) (hty : t = (0, v.toInt, v.toInt)) (hp : pc + 2 = pc1) (k : mT rI g rl ρ cal scr nL tab pc1 (L, (t, 0) :: K, F) N P) : mT rI g rl ρ cal scr nL tab pc (L, K, F) (N + 1) P := by
  subst hty
  intro lv st h hS hc
  obtain ⟨b, hb, hE⟩ := k lv (.int v :: st) h ⟨hS.1, hS.2.1, ⟨hasE0 ⟨v, rfl, Int.le_refl _, Int.le_refl _⟩, hS.2.2.1⟩, hS.2.2.2⟩ hc
  exact ⟨b + 1, by omega, mE_bip pc1 v ht hv hp hE⟩
theorem tT_isub (hg : okG g) (pc1 : Nat) {s t : aV} {o1 o2 : Nat} {a b c d : Int} (ht : tab pc = some (.isub, len, q1, q2, q3, q4)) (hs : arng s = some (a, b)) (hr : arng t = some (c, d)) (hp : pc + 1 = pc1) (k : mT rI g rl ρ cal scr nL tab pc1 (L, (aclip (a - d) (b - c), 0) :: K, F) N P) : mT rI g rl ρ cal scr nL tab pc (L, (t, o2) :: (s, o1) :: K, F) (N + 1) P := by
  intro lv st h hS hc
  obtain ⟨h1, h2, h3, h4⟩ := hS
  match st, h3 with
  | v2 :: v1 :: st, ⟨e2, e1, h3⟩ =>
    obtain ⟨y, rfl, y1, y2⟩ := arng_ok hg hr e2.1
    obtain ⟨x, rfl, x1, x2⟩ := arng_ok hg hs e1.1
    obtain ⟨n, hn, hE⟩ := k lv (.int (x - y) :: st) h ⟨h1, h2, ⟨hasE0 (aclip_sub x1 x2 y1 y2), h3⟩, h4⟩ hc
    exact ⟨n + 1, by omega, mE_isub pc1 _ ht rfl hp hE⟩
theorem tT_goto {off : Int} (pc1 : Nat) (ht : tab pc = some (.goto off, len, q1, q2, q3, q4)) (hp : q1 = pc1) (k : mT rI g rl ρ cal scr nL tab pc1 (L, K, F) N P) : mT rI g rl ρ cal scr nL tab pc (L, K, F) (N + 1) P := by
  intro lv st h hS hc
  obtain ⟨b, hb, hE⟩ := k lv st h hS hc
  exact ⟨b + 1, by omega, mE_goto pc1 ht hp hE⟩
/-- a field of an object of a role -/
theorem tT_gf (pc1 : Nat) {n r o : Nat} {z : Int} {fts : List aV} {t : aV} (ht : tab pc = some (.getfield n, len, q1, q2, q3, q4)) (h0 : Nat.beq q1 100 = false) (hr : rI r = some (.inl (q1, fts))) (hj : fts[q2]? = some t) (hp : pc + 3 = pc1) (k : mT rI g rl ρ cal scr nL tab pc1 (L, (t, 0) :: K, F) N P) : mT rI g rl ρ cal scr nL tab pc (L, ((3, (r : Int), z), o) :: K, F) (N + 1) P := by
  intro lv st h hS hc
  obtain ⟨h1, h2, h3, h4⟩ := hS
  match st, h3 with
  | v1 :: st, ⟨e1, h3⟩ =>
    obtain ⟨a, rfl, ha⟩ := e1.1
    have ha : ρ[a]? = some r := ha
    obtain ⟨fs, v, c1, c2, -, c3⟩ := h1.get ha hr hj
    obtain ⟨b, hb, hE⟩ := k lv (v :: st) h ⟨h1, h2, ⟨hasE0 c3, h3⟩, h4⟩ hc
    exact ⟨b + 1, by omega, mE_gf pc1 ht h0 c1 c2 hp hE⟩
end TU
