/-! a relation that every instruction of a set of methods keeps, and every call of an exempt method -/
def gSet (okI : mI → Bool) (S E : List Nat) : Bool := S.all (fun y => match mmOf y with
  | none => true
  | some M => (List.range M.2.2.2.2.2.2.2).all (fun pc => match mgd M.2.2.2.2.2.2.2 M.2.2.2.2.1 pc with
    | none => true
    | some x => okI x && (match fCl x with | none => true | some y' => S.elem y' || E.elem y')))
theorem mloop_rel {Rl : mS → mS → Prop} (rr : ∀ h, Rl h h) (rt : ∀ a b c, Rl a b → Rl b c → Rl a c) {okI : mI → Bool} (hk : ∀ (nL pc : Nat) (lv : mL) (st : List Value) (h : mS) (x : mI) (p : Nat) (l : mL) (s : List Value) (h1 : mS), okI x = true → mstep none nL pc lv st h x = some (.inl (p, l, s, h1)) → Rl h h1) {S E : List Nat} {cal : Nat → List Value → mS → Option (Option Value × mS)} (hc : ∀ y as h r h', y ∈ S → cal y as h = some (r, h') → Rl h h') (hE : ∀ y as h r h', y ∈ E → cal y as h = some (r, h') → Rl h h') {nL : Nat} {tab : Nat → Option mI} (ht : ∀ pc x, tab pc = some x → okI x = true ∧ ∀ y, fCl x = some y → y ∈ S ∨ y ∈ E) : ∀ (n pc : Nat) (lv : mL) (st : List Value) (h : mS) (r : Option Value) (h' : mS), mloop cal none nL tab n pc lv st h = some (r, h') → Rl h h' := by
  intro n
  induction n with
  | zero => intro pc lv st h r h' hs; cases hs
  | succ n ih =>
    intro pc lv st h r h' hs
    unfold mloop at hs
    split at hs
    · cases hs
    · rename_i x hx
      split at hs
      · cases hs
      · rename_i pc' lv' st' h1 hst
        exact rt _ _ _ (hk _ _ _ _ _ _ _ _ _ _ (ht _ _ hx).1 hst) (ih _ _ _ _ _ _ hs)
      · cases hs
        exact rr _
      · rename_i y as rest hst
        split at hs
        · cases hs
        · rename_i r1 h1 hcal
          refine rt _ _ _ ?_ (ih _ _ _ _ _ _ hs)
          rcases (ht _ _ hx).2 _ (mstep_call hst) with q | q
          · exact hc _ _ _ _ _ q hcal
          · exact hE _ _ _ _ _ q hcal
theorem mcall_rel {Rl : mS → mS → Prop} (rr : ∀ h, Rl h h) (rt : ∀ a b c, Rl a b → Rl b c → Rl a c) {okI : mI → Bool} (hk : ∀ (nL pc : Nat) (lv : mL) (st : List Value) (h : mS) (x : mI) (p : Nat) (l : mL) (s : List Value) (h1 : mS), okI x = true → mstep none nL pc lv st h x = some (.inl (p, l, s, h1)) → Rl h h1) {S E : List Nat} (hS : gSet okI S E = true) (hE : ∀ (d y : Nat) (as : List Value) (h : mS) (r : Option Value) (h' : mS), y ∈ E → mcall d y as h = some (r, h') → Rl h h') : ∀ (d y : Nat) (as : List Value) (h : mS) (r : Option Value) (h' : mS), y ∈ S → mcall d y as h = some (r, h') → Rl h h' := by
  intro d
  induction d with
  | zero => intro y as h r h' _ hs; cases hs
  | succ d ih =>
    intro y as h r h' hy hs
    have hM := List.all_eq_true.mp hS y hy
    unfold mcall at hs
    simp only [cond_eq_ite] at hs
    split at hs
    · cases hs
    · rename_i M hMy
      rw [hMy] at hM
      dsimp only at hM
      repeat' (split at hs)
      all_goals first
        | (cases hs; done)
        | skip
      rename_i hl _
      cases hs
      refine mloop_rel rr rt hk ih (fun y as h r h' => hE d y as h r h') (fun pc x hx => ?_) _ _ _ _ _ _ _ hl
      have := List.all_eq_true.mp hM pc (List.mem_range.mpr (mgd_lt hx))
      rw [hx] at this
      obtain ⟨h1, h2⟩ := mand this
      refine ⟨h1, fun y' hy' => ?_⟩
      rw [hy'] at h2
      rcases Bool.or_eq_true_iff.mp h2 with q | q
      · exact Or.inl (elem_mem q)
      · exact Or.inr (elem_mem q)
/-! exchange of the class -/
def fF7 (ci j : Nat) : Bool := (Nat.beq ci 4 && (Nat.beq j 0 || Nat.beq j 3)) || (Nat.beq ci 10 && Nat.beq j 10) || (Nat.beq ci 11 && Nat.beq j 21)
def S98 : List Nat := [18, 19, 39, 40, 98]
set_option maxRecDepth 10000 in
theorem fS_98 : fSet fF7 S98 = true := by decide +kernel
theorem fF_or {ci j : Nat} (h : fFH ci j = true) : fF7 ci j = true ∨ (ci = 4 ∧ j = 7) := by
  unfold fFH at h
  unfold fF7
  by_cases q : ci = 4 ∧ j = 7
  · exact Or.inr q
  · refine Or.inl ?_
    simp only [Bool.or_eq_true, Bool.and_eq_true, Nat.beq_eq] at h ⊢
    omega
theorem fk_98 {h h' : List mC} (a : fk fF7 h h') (b : A7 h' = A7 h) : fk fFH h h' := by
  intro c ci fs hc
  obtain ⟨fs', c1, c2⟩ := a c ci fs hc
  refine ⟨fs', c1, fun j hj => ?_⟩
  rcases fF_or hj with q | ⟨rfl, rfl⟩
  · exact c2 j q
  · have := congrFun b c
    unfold A7 at this
    rw [hc, c1] at this
    exact this
theorem ex_fk (d : Nat) (as : List Value) (h : mS) (r : Option Value) (h' : mS) (e : mcall d 98 as h = some (r, h')) : fk fFH h.1 h'.1 := by
  have e3 : mcall (d + 3) 98 as h = some (r, h') := mcall_le (by omega) e
  exact fk_98 (mcall_fk fS_98 _ _ _ _ _ _ (by decide) e) (w_exchange e3)
def SX : List Nat := [0, 1, 2, 3, 4, 5, 6, 7, 8, 9, 10, 11, 12, 13, 14, 15, 17, 20, 21, 22, 23, 24, 25, 26, 27, 28, 29, 30, 31, 32, 33, 34, 35, 36, 37, 38, 39, 41, 42, 43, 44, 45, 46, 47, 48, 49, 50, 51, 52, 53, 54, 55, 57, 60, 62, 63, 64, 65, 66, 67, 68, 69, 70, 71, 72, 73, 74, 75, 76, 77, 78, 79, 80, 81, 82, 83, 84, 85, 86, 87, 88, 89, 90, 91, 92, 93, 94, 95, 96, 97, 99, 100, 101, 102, 103, 104, 105, 106, 107, 108, 109, 110, 111, 112, 113, 114, 115, 116, 117, 118, 119, 120, 121, 122, 123, 124, 125, 126, 127, 128, 130, 131, 132, 133, 134, 135, 136, 137, 138, 139, 140, 141, 142, 143, 144, 145, 146, 147, 148, 149, 150, 151, 152, 153, 154, 155, 156, 157, 158, 159, 160, 161, 162, 163, 164, 165, 166, 167, 168]
set_option maxRecDepth 10000 in
theorem gS_X : gSet (fOk fFH) SX [98] = true := by decide +kernel
theorem mcall_fkX (d y : Nat) (as : List Value) (h : mS) (r : Option Value) (h' : mS) (hy : SX.elem y = true) (e : mcall d y as h = some (r, h')) : fk fFH h.1 h'.1 :=
  mcall_rel (Rl := fun h h' => fk fFH h.1 h'.1) (fun _ => fk_refl) (fun _ _ _ a b => a.trans b) (fun nL pc lv st h x p l s h1 hx hs => mstep_fo hx hs _ _ _ _ rfl) gS_X (fun d y as h r h' hy e => by
    have : y = 98 := by simpa using hy
    subst this
    exact ex_fk d as h r h' e) d y as h r h' (elem_mem hy) e
/-! methods that write nothing -/
def roI (x : mI) : Bool := match x.1 with
  | .putfield _ => false
  | .new _ => false
  | .newarray _ => false
  | .anewarray _ => false
  | .iastore => false
  | .bastore => false
  | .aastore => false
  | .invokevirtual _ => !Nat.blt x.2.2.1 10
  | .invokespecial _ => Nat.beq x.2.2.1 0 || !Nat.blt x.2.2.1 10
  | .invokestatic _ => !Nat.blt x.2.2.1 10
  | _ => true
theorem minv_nl {kind y b c : Nat} {st : List Value} {h : mS} {q : Nat × mL × List Value × mS} (hs : minv kind y b c st h = some (.inl q)) : False := by
  unfold minv at hs
  simp only [cond_eq_ite] at hs
  repeat' (split at hs)
  all_goals cases hs
set_option maxHeartbeats 4000000 in
set_option maxRecDepth 100000 in
theorem ro_step {nL pc : Nat} {lv : mL} {st : List Value} {h : mS} {x : mI} {p : Nat} {l : mL} {s : List Value} {h1 : mS} (hx : roI x = true) (hs : mstep none nL pc lv st h x = some (.inl (p, l, s, h1))) : h1 = h := by
  obtain ⟨i, len, a, b, c3, d⟩ := x
  cases i with
  | putfield idx => cases hx
  | new idx => cases hx
  | newarray idx => cases hx
  | anewarray idx => cases hx
  | iastore => cases hx
  | bastore => cases hx
  | aastore => cases hx
  | invokevirtual idx =>
    have hb : Nat.blt a 10 = false := by simpa [roI] using hx
    simp only [mstep] at hs
    rw [hb, cond_false] at hs
    exact (minv_nl hs).elim
  | invokespecial idx =>
    have hb : (Nat.beq a 0 || !Nat.blt a 10) = true := hx
    rcases Bool.or_eq_true_iff.mp hb with q | q
    · have := Nat.eq_of_beq_eq_true q
      subst this
      have hs : mspec 0 pc lv st h = some (.inl (p, l, s, h1)) := hs
      cases st with
      | nil => cases hs
      | cons v r =>
        cases v with
        | ref a =>
          have hs : (bif Nat.ble r.length 8 && r.all mone then mnx (pc + 3) lv r h else none) = some (.inl (p, l, s, h1)) := hs
          cases hb : (Nat.ble r.length 8 && r.all mone) with
          | false => rw [hb] at hs; cases hs
          | true => rw [hb] at hs; cases hs; rfl
        | _ => cases hs
    · have hb : Nat.blt a 10 = false := by simpa using q
      simp only [mstep] at hs
      rw [hb, cond_false] at hs
      exact (minv_nl hs).elim
  | invokestatic idx =>
    have hb : Nat.blt a 10 = false := by simpa [roI] using hx
    simp only [mstep] at hs
    rw [hb, cond_false] at hs
    exact (minv_nl hs).elim
  | ifCond cd off => cases cd <;> (simp only [mstep, mif, mnx] at hs; repeat' (split at hs)) <;> first | (cases hs; done) | (cases hs; rfl)
  | if_icmp cd off => cases cd <;> (simp only [mstep, mif2, mnx] at hs; repeat' (split at hs)) <;> first | (cases hs; done) | (cases hs; rfl)
  | if_acmp cd off => cases cd <;> (simp only [mstep, mifa, mnx, cond_eq_ite] at hs; repeat' (split at hs)) <;> first | (cases hs; done) | (cases hs; rfl)
  | _ =>
    simp only [mstep, mld, mst, mbin, mdiv, mun, mifn, mgetf, mald, mbld, mgets, maldq, malen, msw, mnx, cond_eq_ite] at hs
    repeat' (split at hs)
    all_goals first | (cases hs; done) | (cases hs; rfl)
def RO : List Nat := [82, 83, 84, 105, 106, 107, 143, 144, 145, 152]
set_option maxRecDepth 10000 in
theorem gS_RO : gSet roI RO [] = true := by decide +kernel
theorem ro_call {d y : Nat} {as : List Value} {h : mS} {r : Option Value} {h' : mS} (hy : RO.elem y = true) (e : mcall d y as h = some (r, h')) : h' = h :=
  mcall_rel (Rl := fun h h' => h' = h) (fun _ => rfl) (fun _ _ _ a b => b.trans a) (fun nL pc lv st h x p l s h1 hx hs => ro_step hx hs) gS_RO (fun d y as h r h' hy e => absurd hy (by simp)) d y as h r h' (elem_mem hy) e
