/-! the transfer is sound -/
def okA (g : Nat → Int) (ρ : List Nat) : List aV → List Value → Prop
  | [], [] => True
  | t :: ts, v :: vs => hasT g ρ t v ∧ okA g ρ ts vs
  | _, _ => False
def okRt (g : Nat → Int) (ρ : List Nat) (as : List Value) (ret : Option (aV × Nat × aV)) (r : Option Value) : Prop := match ret with
  | none => r = none
  | some q => ∃ v, r = some v ∧ hasT g ρ q.1 v ∧ (q.2.1 ≠ 0 → v = .int 0 ∨ ∃ u, as[q.2.1 - 1]? = some u ∧ hasT g ρ q.2.2 u)
/-- a contract holds, at call depth d -/
def CT (rI : Nat → Option aR) (B : aB) (d : Nat) (c : aCT) : Prop := ∀ (g : Nat → Int) (ρ : List Nat) (as : List Value) (h : mS), okG B g → okH rI g ρ h.1 → okA g ρ c.2.1 as → (∀ q ∈ c.2.2.1, ∃ v, vcell h.1 as[0]? q.1 = some v ∧ hasT g ρ q.2 v) →
  ∃ r h', mcall d c.1 as h = some (r, h') ∧ okH rI g ρ h'.1 ∧ okFr ρ c.2.2.2.2 h h' ∧ okRt g ρ as c.2.2.2.1 r
def okS (rI : Nat → Option aR) (g : Nat → Int) (ρ md : List Nat) (h0 : mS) (L : aL) (K : List aE) (lv : mL) (st : List Value) (h : mS) : Prop := okH rI g ρ h.1 ∧ okL g ρ L lv h.1 ∧ okK g ρ lv h.1 K st ∧ (∀ q ∈ lv, mone q.2 = true) ∧ okFr ρ md h0 h
/-- the run ends well within the measure and X -/
def mB (d nL : Nat) (tab : Nat → Option mI) (P : Option Value → mS → Prop) (X : Int) (E : aM) (pc : Nat) (lv : mL) (st : List Value) (h : mS) : Prop := ∃ b : Nat, (b : Int) ≤ mval lv h.1 E + X ∧ mE (mcall d) none nL tab b (pc, lv, st, h) P
/-- from a state of types the run ends well, within the measure -/
def Gs (rI : Nat → Option aR) (g : Nat → Int) (ρ md : List Nat) (h0 : mS) (d nL : Nat) (tab : Nat → Option mI) (P : Option Value → mS → Prop) (X : Int) (n : Int) (c : aC) : Prop := ∀ (lv : mL) (st : List Value) (h : mS), okS rI g ρ md h0 c.2.1 c.2.2.1 lv st h → mval lv h.1 c.2.2.2 ≤ n → mB d nL tab P X c.2.2.2 c.1 lv st h
theorem tk_val {lv : mL} {h : List mC} {E : aM} : mval lv h (tk E) = mval lv h E - 1 := by
  unfold mval tk
  dsimp only
  omega
theorem mval_split {lv : mL} {h : List mC} {E : aM} : mval lv h E = E.1 + (E.2.map (fun q => q.2 * vint lv h q.1)).sum := rfl
section SO
variable {rI : Nat → Option aR} {B : aB} {g : Nat → Int} {ρ md : List Nat} {h0 : mS} {d nL : Nat} {tab : Nat → Option mI} {P : Option Value → mS → Prop} {X : Int} {n : Int} {pc : Nat} {lv : mL} {st : List Value} {h : mS} {x : mI} {L : aL} {K : List aE} {E : aM} {cs : List aC}
theorem stepG {pc' : Nat} {lv' : mL} {st' : List Value} {h' : mS} {L' : aL} {K' : List aE} {E' : aM} (ht : tab pc = some x) (hs : mstep none nL pc lv st h x = some (.inl (pc', lv', st', h'))) (hG : Gs rI g ρ md h0 d nL tab P X n (pc', L', K', E')) (hS : okS rI g ρ md h0 L' K' lv' st' h') (hm : mval lv' h'.1 E' + 1 ≤ mval lv h.1 E) (hn : mval lv h.1 E ≤ (n : Int) + 1) : mB d nL tab P X E pc lv st h := by
  have hn' : mval lv' h'.1 E' ≤ (n : Int) := by omega
  obtain ⟨b, hb, k1⟩ := hG lv' st' h' hS hn'
  have hb : (b : Int) ≤ mval lv' h'.1 E' + X := hb
  exact ⟨b + 1, by omega, mE_s ht hs k1⟩
/-- nothing but the stack changes -/
theorem stepN {pc' : Nat} {st' : List Value} {L' : aL} {K' : List aE} (ht : tab pc = some x) (hs : mstep none nL pc lv st h x = some (.inl (pc', lv, st', h))) (hG : Gs rI g ρ md h0 d nL tab P X n (pc', L', K', tk E)) (hS : okS rI g ρ md h0 L K lv st h) (hL : okL g ρ L' lv h.1) (hK : okK g ρ lv h.1 K' st') (hn : mval lv h.1 E ≤ (n : Int) + 1) : mB d nL tab P X E pc lv st h :=
  stepG ht hs hG ⟨hS.1, hL, hK, hS.2.2.2.1, hS.2.2.2.2⟩ (by rw [tk_val]; omega) hn
theorem anx_in {pc' : Nat} {L' : aL} {K' : List aE} (ha : anx pc' L' K' E = some cs) (hcs : ∀ c ∈ cs, Gs rI g ρ md h0 d nL tab P X n c) : Gs rI g ρ md h0 d nL tab P X n (pc', L', K', tk E) := by
  unfold anx at ha
  cases ha
  exact hcs _ List.mem_cons_self
theorem hasEl {i : Nat} {t : aV} {v : Value} (hi : Nat.blt i 1000 = true) (hv : mget lv i = some v) (ht : hasT g ρ t v) : hasE g ρ lv h.1 (t, 2 * i + 1, (0, 0, 0)) v := by
  refine ⟨ht, fun _ => ⟨v, ?_, ?_⟩, fun h2 => absurd h2 (by omega)⟩
  · have : 2 * i / 2 = i := by omega
    rw [this]
    unfold vget
    rw [hi]
    exact hv
  · have hm := hasT_mone ht
    cases v with
    | int x => exact Or.inr ⟨x, x, rfl, rfl, by show x.toInt + 0 ≤ _; omega, by show _ ≤ x.toInt + 0; omega⟩
    | ref k => exact Or.inl ⟨rfl, rfl⟩
    | null => exact Or.inl ⟨rfl, rfl⟩
    | retAddr k => exact Or.inl ⟨rfl, rfl⟩
    | _ => cases hm
theorem vget_l {i : Nat} (hi : Nat.blt i 1000 = true) (hp : List mC) : vget lv hp i = mget lv i := by
  unfold vget
  rw [hi]
  rfl
theorem aint_ok {t : aV} {v : Value} (hg : okG B g) (h : aint B t = true) (hv : hasT g ρ t v) : ∃ x : Int32, v = .int x := by
  obtain ⟨q, hq⟩ := Option.isSome_iff_exists.mp h
  obtain ⟨x, e, -⟩ := arng_ok hg hq hv
  exact ⟨x, e⟩
theorem aint_mis {t : aV} {v : Value} (hg : okG B g) (h : aint B t = true) (hv : hasT g ρ t v) : misint v = true := by
  obtain ⟨x, rfl⟩ := aint_ok hg h hv
  rfl
theorem L_ld {okv : Value → Bool} {ok : aV → Bool} {i pc' : Nat} (hok : ∀ t v, ok t = true → hasT g ρ t v → okv v = true) (ht : tab pc = some x) (hs : mstep none nL pc lv st h x = mld okv i pc' lv st h) (ha : tld ok i pc' L K E = some cs) (hcs : ∀ c ∈ cs, Gs rI g ρ md h0 d nL tab P X n c) (hS : okS rI g ρ md h0 L K lv st h) (hn : mval lv h.1 E ≤ (n : Int) + 1) : mB d nL tab P X E pc lv st h := by
  unfold tld at ha
  split at ha
  · rename_i t hl
    cases hb : (ok t && Nat.blt i 1000) with
    | false => rw [hb] at ha; cases ha
    | true =>
      rw [hb, cond_true] at ha
      obtain ⟨b1, b2⟩ := mand hb
      obtain ⟨v, hv, hty⟩ := hS.2.1.get hl
      rw [vget_l b2] at hv
      refine stepN ht (st' := v :: st) ?_ (anx_in ha hcs) hS hS.2.1 ⟨hasEl b2 hv hty, hS.2.2.1⟩ hn
      rw [hs]
      unfold mld
      rw [hv]
      show (bif okv v then _ else _) = _
      rw [hok t v b1 hty]
      rfl
  · cases ha
theorem mone_cat2 {v : Value} (h : mone v = true) : ¬ v.category = 2 := by
  cases v <;> first | (cases h; done) | (intro h2; cases h2)
theorem find_congr {α : Type} {p q : α → Bool} : ∀ (l : List α), (∀ x ∈ l, p x = q x) → l.find? p = l.find? q
  | [], _ => rfl
  | a :: l, h => by
    have h1 := h a List.mem_cons_self
    have h2 := find_congr l (fun x hx => h x (List.mem_cons_of_mem _ hx))
    rw [List.find?_cons, List.find?_cons, h1, h2]
theorem mget_put (lv : mL) (i j : Nat) (v : Value) (hj : j ≠ i) (hcat : ∀ q ∈ lv, mone q.2 = true) : mget (mput lv i v) j = mget lv j := by
  unfold mget mput
  rw [List.find?_cons_of_neg (by
    show ¬ Nat.beq i j = true
    intro h
    exact hj (Nat.eq_of_beq_eq_true h).symm)]
  congr 1
  rw [List.find?_filter]
  apply find_congr
  intro q hq
  by_cases hqj : Nat.beq q.1 j = true
  · have he := Nat.eq_of_beq_eq_true hqj
    have h2 : (q.1 == i) = false := by rw [he]; simpa using hj
    have h3 : (q.2.category == 2) = false := by
      have := mone_cat2 (hcat q hq)
      simpa using this
    simp [hqj, h2, h3]
  · have hqj : Nat.beq q.1 j = false := by
      cases hb : Nat.beq q.1 j with
      | true => exact absurd hb hqj
      | false => rfl
    rw [hqj]
    simp
theorem mget_put_self (lv : mL) (i : Nat) (v : Value) : mget (mput lv i v) i = some v := by
  unfold mget mput
  rw [List.find?_cons_of_pos (by show Nat.beq i i = true; exact Nat.beq_refl i)]
  rfl
theorem mput_mone {i : Nat} {v : Value} (hl : ∀ q ∈ lv, mone q.2 = true) (hv : mone v = true) : ∀ q ∈ mput lv i v, mone q.2 = true := by
  intro q hq
  rcases List.mem_cons.mp hq with rfl | hq
  · exact hv
  · exact hl q (List.mem_filter.mp hq).1
theorem put_C {i : Nat} {v : Value} (hl : ∀ q ∈ lv, mone q.2 = true) (hp : List mC) : ∀ y, stC i y = false → vget (mput lv i v) hp y = vget lv hp y := by
  intro y hy
  unfold stC at hy
  rw [Bool.or_eq_false_iff] at hy
  obtain ⟨h1, h2⟩ := hy
  have hne : y ≠ i := fun e => by
    rw [e, Nat.beq_refl] at h1
    cases h1
  unfold vget
  cases hb : Nat.blt y 1000 with
  | true => exact mget_put lv i y v hne hl
  | false =>
    have h3 : 1000 ≤ y := by
      rcases Nat.lt_or_ge y 1000 with h | h
      · rw [Nat.blt_eq.mpr h] at hb; cases hb
      · exact h
    have h0 : i ≠ 0 := fun e => by
      rw [e, Nat.ble_eq.mpr h3] at h2
      cases h2
    show vcell hp (mget (mput lv i v) 0) _ = vcell hp (mget lv 0) _
    rw [mget_put lv i 0 v (fun e => h0 e.symm) hl]
/-- a local gets a value -/
theorem L_put {e : aE} {v : Value} {i pc' : Nat} {K1 : List aE} {st1 : List Value} (hg : okG B g) (hi : Nat.blt i 1000 = true) (ht : tab pc = some x) (hs : mstep none nL pc lv st h x = some (.inl (pc', mput lv i v, st1, h))) (hE : hasE g ρ lv h.1 e v) (hK : okK g ρ lv h.1 K1 st1) (ha : aput B (stC i) i e pc' L K1 E = some cs) (hcs : ∀ c ∈ cs, Gs rI g ρ md h0 d nL tab P X n c) (hS : okS rI g ρ md h0 L K lv st h) (hn : mval lv h.1 E ≤ (n : Int) + 1) : mB d nL tab P X E pc lv st h := by
  unfold aput at ha
  split at ha
  · rename_i q hq
    cases ha
    have hC := put_C (i := i) (v := v) hS.2.2.2.1 h.1
    have hx : vget (mput lv i v) h.1 i = some v := by rw [vget_l hi, mget_put_self]
    have hm := aEup_ok hg hS.2.1 hC hE (Or.inl hx) hq
    refine stepG ht hs (hcs _ List.mem_cons_self) ⟨hS.1, (hS.2.1.clr hC).set hx hE.1, hK.clr hC, mput_mone hS.2.2.2.1 (hasT_mone hE.1), hS.2.2.2.2⟩ ?_ hn
    rw [mval_split] at hm ⊢
    rw [mval_split (E := E)]
    dsimp only at hm ⊢
    omega
  · cases ha
theorem L_st {okv : Value → Bool} {ok : aV → Bool} {i pc' : Nat} (hg : okG B g) (hok : ∀ t v, ok t = true → hasT g ρ t v → okv v = true) (ht : tab pc = some x) (hs : mstep none nL pc lv st h x = mst okv nL i pc' lv st h) (ha : tst B ok nL i pc' L K E = some cs) (hcs : ∀ c ∈ cs, Gs rI g ρ md h0 d nL tab P X n c) (hS : okS rI g ρ md h0 L K lv st h) (hn : mval lv h.1 E ≤ (n : Int) + 1) : mB d nL tab P X E pc lv st h := by
  unfold tst at ha
  split at ha
  · rename_i e r
    cases hb : (ok e.1 && (Nat.blt i nL && Nat.blt i 1000)) with
    | false => rw [hb] at ha; cases ha
    | true =>
      rw [hb, cond_true] at ha
      obtain ⟨b1, b2⟩ := mand hb
      obtain ⟨b2, b3⟩ := mand b2
      obtain ⟨v, vs, rfl, hE, hK⟩ := hS.2.2.1.inv
      refine L_put hg b3 ht ?_ hE hK ha hcs hS hn
      rw [hs]
      unfold mst
      show (bif okv v && Nat.blt i nL then _ else _) = _
      rw [hok _ v b1 hE.1, b2]
      rfl
  · cases ha
theorem L_con {v : Int32} {pc' : Nat} (ht : tab pc = some x) (hs : mstep none nL pc lv st h x = mnx pc' lv (.int v :: st) h) (ha : tcon v pc' L K E = some cs) (hcs : ∀ c ∈ cs, Gs rI g ρ md h0 d nL tab P X n c) (hS : okS rI g ρ md h0 L K lv st h) (hn : mval lv h.1 E ≤ (n : Int) + 1) : mB d nL tab P X E pc lv st h :=
  stepN ht hs (anx_in ha hcs) hS hS.2.1 ⟨hasE0 ⟨v, rfl, Int.le_refl _, Int.le_refl _⟩, hS.2.2.1⟩ hn
/-- the same of any single value -/
theorem L_psh {t : aV} {v : Value} {pc' : Nat} (hv : hasT g ρ t v) (ht : tab pc = some x) (hs : mstep none nL pc lv st h x = mnx pc' lv (v :: st) h) (ha : anx pc' L ((t, 0, a32) :: K) E = some cs) (hcs : ∀ c ∈ cs, Gs rI g ρ md h0 d nL tab P X n c) (hS : okS rI g ρ md h0 L K lv st h) (hn : mval lv h.1 E ≤ (n : Int) + 1) : mB d nL tab P X E pc lv st h :=
  stepN ht hs (anx_in ha hcs) hS hS.2.1 ⟨hasE0 hv, hS.2.2.1⟩ hn
theorem aorg_ok {op : Nat} {e f : aE} {y z : Int32} (hg : okG B g) (hE : hasE g ρ lv h.1 e (.int y)) (hF : hasT g ρ f.1 (.int z)) : hasO g ρ lv h.1 (aorg B op e f).1 (aorg B op e f).2 (.int (aopI op y z)) := by
  unfold aorg
  split
  · rename_i p q hp hq
    obtain ⟨y', e1, y1, y2⟩ := arng_ok hg hp hE.1
    cases e1
    obtain ⟨z', e1, z1, z2⟩ := arng_ok hg hq hF
    cases e1
    cases hb : Nat.beq (e.2.1 % 2) 1 with
    | false => exact trivial
    | true =>
      have hb := mlen hb
      rw [cond_true]
      have key : ∀ (lo hi : Int) (r : Int32), y.toInt + lo ≤ r.toInt → r.toInt ≤ y.toInt + hi → hasO g ρ lv h.1 e.2.1 (0, e.2.2.2.1 + lo, e.2.2.2.2 + hi) (.int r) := by
        intro lo hi r k1 k2
        have hO := hE.2
        revert hO hb
        cases e.2.1 with
        | zero => intro hb; cases hb
        | succ o =>
          intro hb hO
          obtain ⟨u, e1, e2⟩ := hO.1 (by omega)
          refine ⟨fun _ => ⟨u, e1, ?_⟩, fun h2 => absurd h2 (by omega)⟩
          rcases e2 with ⟨-, e2⟩ | ⟨a, b, rfl, e2, e4, e5⟩
          · cases e2
          · cases e2
            exact Or.inr ⟨a, r, rfl, rfl, by show a.toInt + (e.2.2.2.1 + lo) ≤ _; omega, by show _ ≤ a.toInt + (e.2.2.2.2 + hi); omega⟩
      split
      · cases hc : afits (p.1 + q.1) (p.2 + q.2) with
        | false => exact trivial
        | true =>
          have hc := afits_ok hc
          have e9 : (aopI 0 y z).toInt = y.toInt + z.toInt := add_id (by omega) (by omega)
          exact key _ _ _ (by omega) (by omega)
      · cases hc : afits (p.1 - q.2) (p.2 - q.1) with
        | false => exact trivial
        | true =>
          have hc := afits_ok hc
          have e9 : (aopI 1 y z).toInt = y.toInt - z.toInt := sub_id (by omega) (by omega)
          rw [cond_true]
          have := key (-q.2) (-q.1) (aopI 1 y z) (by omega) (by omega)
          rw [← Int.sub_eq_add_neg, ← Int.sub_eq_add_neg] at this
          exact this
      · exact trivial
  · exact trivial
theorem L_bin {op pc' : Nat} (hg : okG B g) (ht : tab pc = some x) (hs : ∀ (y z : Int32) (r : List Value), st = .int z :: .int y :: r → mstep none nL pc lv st h x = some (.inl (pc', lv, .int (aopI op y z) :: r, h))) (ha : tbin B op pc' L K E = some cs) (hcs : ∀ c ∈ cs, Gs rI g ρ md h0 d nL tab P X n c) (hS : okS rI g ρ md h0 L K lv st h) (hn : mval lv h.1 E ≤ (n : Int) + 1) : mB d nL tab P X E pc lv st h := by
  unfold tbin at ha
  split at ha
  · rename_i f e r
    split at ha
    · rename_i t hab
      obtain ⟨w, vs, rfl, hF, hK⟩ := hS.2.2.1.inv
      obtain ⟨v, vs, rfl, hE, hK2⟩ := hK.inv
      obtain ⟨y, z, rfl, rfl, hr⟩ := abin_ok hg hab hE.1 hF.1
      exact stepN ht (hs y z vs rfl) (anx_in ha hcs) hS hS.2.1 ⟨⟨hr, aorg_ok hg hE hF.1⟩, hK2⟩ hn
    · cases ha
  · cases ha
theorem L_div {op pc' : Nat} (hg : okG B g) (ht : tab pc = some x) (hs : ∀ (y z : Int32) (r : List Value), st = .int z :: .int y :: r → ¬ z = 0 → mstep none nL pc lv st h x = some (.inl (pc', lv, .int (aopI op y z) :: r, h))) (ha : tdiv B op pc' L K E = some cs) (hcs : ∀ c ∈ cs, Gs rI g ρ md h0 d nL tab P X n c) (hS : okS rI g ρ md h0 L K lv st h) (hn : mval lv h.1 E ≤ (n : Int) + 1) : mB d nL tab P X E pc lv st h := by
  unfold tdiv at ha
  split at ha
  · rename_i f r
    split at ha
    · rename_i q hq
      cases hb : (decide (0 < q.1) || decide (q.2 < 0)) with
      | false => rw [hb] at ha; cases ha
      | true =>
        rw [hb, cond_true] at ha
        rw [Bool.or_eq_true] at hb
        refine L_bin hg ht (fun y z r1 e => hs y z r1 e (fun hz => ?_)) ha hcs hS hn
        subst e
        obtain ⟨w, vs, e, hF, hK⟩ := hS.2.2.1.inv
        cases e
        obtain ⟨z', e, h1, h2⟩ := arng_ok hg hq hF.1
        cases e
        rw [hz] at h1 h2
        have e0 : (0 : Int32).toInt = 0 := by decide
        rw [e0] at h1 h2
        rcases hb with hb | hb
        · have := of_decide_eq_true hb; omega
        · have := of_decide_eq_true hb; omega
    · cases ha
  · cases ha
theorem L_un {f : Int32 → Int32} {pc' : Nat} (hg : okG B g) (ht : tab pc = some x) (hs : ∀ (y : Int32) (r : List Value), st = .int y :: r → mstep none nL pc lv st h x = some (.inl (pc', lv, .int (f y) :: r, h))) (ha : tun B pc' L K E = some cs) (hcs : ∀ c ∈ cs, Gs rI g ρ md h0 d nL tab P X n c) (hS : okS rI g ρ md h0 L K lv st h) (hn : mval lv h.1 E ≤ (n : Int) + 1) : mB d nL tab P X E pc lv st h := by
  unfold tun at ha
  split at ha
  · rename_i e r
    cases hb : aint B e.1 with
    | false => rw [hb] at ha; cases ha
    | true =>
      rw [hb, cond_true] at ha
      obtain ⟨v, vs, rfl, hE, hK⟩ := hS.2.2.1.inv
      obtain ⟨y, rfl⟩ := aint_ok hg hb hE.1
      exact stepN ht (hs y vs rfl) (anx_in ha hcs) hS hS.2.1 ⟨hasE0 (a32_ok _), hK⟩ hn
  · cases ha
theorem ofInt_id {m : Int} (h : afits m m = true) : (Int32.ofInt m).toInt = m := by
  have := afits_ok h
  rw [Int32.toInt_ofInt]
  exact bmod_id this.1 this.2
theorem L_inc {i : Nat} {m : Int} {pc' : Nat} (hg : okG B g) (ht : tab pc = some x) (hs : ∀ y : Int32, mget lv i = some (.int y) → Nat.blt i nL = true → mstep none nL pc lv st h x = some (.inl (pc', mput lv i (.int (y + Int32.ofInt m)), st, h))) (ha : tinc B nL i m pc' L K E = some cs) (hcs : ∀ c ∈ cs, Gs rI g ρ md h0 d nL tab P X n c) (hS : okS rI g ρ md h0 L K lv st h) (hn : mval lv h.1 E ≤ (n : Int) + 1) : mB d nL tab P X E pc lv st h := by
  unfold tinc at ha
  split at ha
  · rename_i t hl
    split at ha
    · rename_i t' hab
      cases hb : (Nat.blt i nL && (Nat.blt i 1000 && afits m m)) with
      | false => rw [hb] at ha; cases ha
      | true =>
        rw [hb, cond_true] at ha
        obtain ⟨b1, b2⟩ := mand hb
        obtain ⟨b2, b3⟩ := mand b2
        obtain ⟨v, hv, hty⟩ := hS.2.1.get hl
        rw [vget_l b2] at hv
        have hm : hasT g ρ (0, m, m) (.int (Int32.ofInt m)) := ⟨_, rfl, by show m ≤ _; rw [ofInt_id b3]; omega, by show _ ≤ m; rw [ofInt_id b3]; omega⟩
        obtain ⟨y, z, rfl, e, hr⟩ := abin_ok hg hab hty hm
        cases e
        have hE0 : hasE g ρ lv h.1 (t, 2 * i + 1, (0, 0, 0)) (.int y) := hasEl b2 hv hty
        exact L_put hg b2 ht (hs y hv b1) (e := (t', aorg B 0 (t, 2 * i + 1, (0, 0, 0)) ((0, m, m), 0, a32))) ⟨hr, aorg_ok hg hE0 (f := ((0, m, m), 0, a32)) hm⟩ hS.2.2.1 ha hcs hS hn
    · cases ha
  · cases ha
end SO
