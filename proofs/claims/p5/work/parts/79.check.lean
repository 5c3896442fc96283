/-! contracts out of checks -/
theorem mloop_cal {cal cal' : Nat → List Value → mS → Option (Option Value × mS)} (hc : ∀ y as h q, cal y as h = some q → cal' y as h = some q) {scr : Option (Nat × (Nat → Int32))} {nL : Nat} {tab : Nat → Option mI} : ∀ (n pc : Nat) (lv : mL) (st : List Value) (h : mS) (q : Option Value × mS), mloop cal scr nL tab n pc lv st h = some q → mloop cal' scr nL tab n pc lv st h = some q := by
  intro n
  induction n with
  | zero => intro pc lv st h q hs; cases hs
  | succ n ih =>
    intro pc lv st h q hs
    rw [mloop_eq] at hs ⊢
    split at hs
    · cases hs
    · rename_i x hx
      split at hs
      · cases hs
      · exact ih _ _ _ _ _ hs
      · exact hs
      · split at hs
        · cases hs
        · rename_i hcal
          simp only [hc _ _ _ _ hcal]
          exact ih _ _ _ _ _ hs
theorem mcall_up : ∀ (d y : Nat) (as : List Value) (h : mS) (q : Option Value × mS), mcall d y as h = some q → mcall (d + 1) y as h = some q := by
  intro d
  induction d with
  | zero => intro y as h q hs; cases hs
  | succ d ih =>
    intro y as h q hs
    unfold mcall at hs ⊢
    split at hs
    · cases hs
    · rename_i M hM
      cases hb : (Nat.ble as.length M.2.2.1 && as.all mone) with
      | false => rw [hb] at hs; cases hs
      | true =>
        simp only [hb, cond_true] at hs ⊢
        split at hs
        · rename_i r h' hl
          simp only [mloop_cal ih _ _ _ _ _ _ hl]
          exact hs
        · cases hs
theorem mcall_le {d d' : Nat} (hd : d ≤ d') {y : Nat} {as : List Value} {h : mS} {q : Option Value × mS} (hs : mcall d y as h = some q) : mcall d' y as h = some q := by
  induction d' with
  | zero => rw [Nat.le_zero.mp hd] at hs; exact hs
  | succ m ih =>
    by_cases he : d = m + 1
    · subst he; exact hs
    · exact mcall_up _ _ _ _ _ (ih (by omega))
theorem CT.le {rI : Nat → Option aR} {B : aB} {d d' : Nat} {c : aCT} (hc : CT rI B d c) (hd : d ≤ d') : CT rI B d' c := by
  intro g ρ as h h1 h2 h3 h4
  obtain ⟨r, h', k1, k2⟩ := hc g ρ as h h1 h2 h3 h4
  exact ⟨r, h', mcall_le hd k1, k2⟩
/-- the bounds may be narrower -/
theorem CT.nar {rI : Nat → Option aR} {B B' : aB} {d : Nat} {c : aCT} (hc : CT rI B d c) (hB : ∀ g, okG B' g → okG B g) : CT rI B' d c := fun g ρ as h h1 h2 h3 h4 => hc g ρ as h (hB g h1) h2 h3 h4
def aentL : Nat → List aV → aL
  | _, [] => []
  | i, t :: ts => (i, t) :: aentL (i + 1) ts
def aentF (tf : aL) : aL := tf.map (fun q => (1000 + q.1, q.2))
theorem lv_args_get : ∀ (as : List Value) (i j : Nat), as.all mone = true → mget (lv_args i as) (i + j) = as[j]?
  | [], i, j, _ => rfl
  | v :: vs, i, j, ha => by
    rw [List.all_cons, Bool.and_eq_true] at ha
    have hc : ¬ v.category = 2 := mone_cat2 ha.1
    have e : lv_args i (v :: vs) = (i, v) :: lv_args (i + 1) vs := by
      show (i, v) :: lv_args (if v.category = 2 then i + 2 else i + 1) vs = _
      rw [if_neg hc]
    rw [e]
    cases j with
    | zero =>
      unfold mget
      rw [List.find?_cons_of_pos (by show Nat.beq i (i + 0) = true; exact Nat.beq_refl i)]
      rfl
    | succ j =>
      have ih := lv_args_get vs (i + 1) j ha.2
      have e2 : i + 1 + j = i + (j + 1) := by omega
      rw [e2] at ih
      unfold mget at ih ⊢
      rw [List.find?_cons_of_neg (by
        show ¬ Nat.beq i (i + (j + 1)) = true
        intro h
        have := Nat.eq_of_beq_eq_true h
        omega)]
      rw [ih]
      rfl
theorem lv_args_mone : ∀ (as : List Value) (i : Nat), as.all mone = true → ∀ q ∈ lv_args i as, mone q.2 = true
  | [], _, _, q, hq => by cases hq
  | v :: vs, i, ha, q, hq => by
    rw [List.all_cons, Bool.and_eq_true] at ha
    rcases List.mem_cons.mp hq with rfl | hq
    · exact ha.1
    · exact lv_args_mone vs _ ha.2 q hq
theorem okA.mone {g : Nat → Int} {ρ : List Nat} : ∀ {ts : List aV} {as : List Value}, okA g ρ ts as → as.all mone = true ∧ as.length = ts.length
  | [], [], _ => ⟨rfl, rfl⟩
  | _ :: _, _ :: _, h => by
    obtain ⟨h1, h2⟩ := okA.mone h.2
    exact ⟨by rw [List.all_cons, h1, hasT_mone h.1]; rfl, by rw [List.length_cons, List.length_cons, h2]⟩
theorem aentL_ok {g : Nat → Int} {ρ : List Nat} : ∀ {ts : List aV} {as : List Value} (i : Nat), okA g ρ ts as → ∀ q ∈ aentL i ts, ∃ (j : Nat) (v : Value), q.1 = i + j ∧ j < ts.length ∧ as[j]? = some v ∧ hasT g ρ q.2 v
  | [], [], _, _, q, hq => by cases hq
  | t :: ts, v :: vs, i, h, q, hq => by
    rcases List.mem_cons.mp hq with rfl | hq
    · exact ⟨0, v, rfl, by simp, rfl, h.1⟩
    · obtain ⟨j, w, e1, e2, e3, e4⟩ := aentL_ok (i + 1) h.2 q hq
      exact ⟨j + 1, w, by omega, by simp; omega, by simpa using e3, e4⟩
def aretok (B : aB) : Option FieldType → Option (aV × Nat × aV) → Bool
  | none, none => true
  | some .int, some q => aint B q.1
  | some .boolean, some q => (match arng B q.1 with | some r => decide (0 ≤ r.1) && decide (r.2 ≤ 1) | none => false)
  | some .byte, some q => (match arng B q.1 with | some r => decide (0 ≤ r.1) && decide (r.2 ≤ 1) | none => false)
  | some (.object _), some q => aobj q.1
  | _, _ => false
def anaf (anl : List (Nat × aAn)) (pc : Nat) : Option aAn := (anl.find? (fun q => Nat.beq q.1 pc)).map (fun q => q.2)
def alook (l : List (Nat × Nat)) (pc : Nat) : Nat := match l.find? (fun q => Nat.beq q.1 pc) with | some q => q.2 | none => 0
def artt (c : aCT) : Option aV := c.2.2.2.1.map (fun q => q.1)
/-- the check of a method against a contract -/
def acheck (B : aB) (rI : Nat → Option aR) (ct : Nat → Option aCT) (c : aCT) (anl : List (Nat × aAn)) (cal : List (Nat × Nat)) (f : Nat) : Bool := match mmOf c.1 with
  | none => false
  | some M => (match anaf anl 0 with
    | none => false
    | some A => Nat.ble c.2.1.length M.2.2.1 && (Nat.ble c.2.1.length 20 && (A.2.1.isEmpty && (ajL B (aext rI (aentL 0 c.2.1 ++ aentF c.2.2.1) A.1) A.1 && ((match alowE B A.1 (aminus (1000000000000, []) A.2.2) with | some m => decide (0 ≤ m) | none => false) && (aretok B M.2.2.2.1 c.2.2.2.1 && ((match c.2.2.2.1 with | some q => Nat.beq q.2.1 0 | none => true)
      && anl.all (fun q => ahead B rI ct (alook cal) c.2.2.2.2 (artt c) M.2.2.1 (mgd M.2.2.2.2.2.2.2 M.2.2.2.2.1) (anaf anl) f q.1))))))))
theorem bit_of {x : Int32} (h1 : 0 ≤ x.toInt) (h2 : x.toInt ≤ 1) : (x == 0 || x == 1) = true := by
  have e0 : (0 : Int32).toInt = 0 := by decide
  have e1 : (1 : Int32).toInt = 1 := by decide
  rw [Bool.or_eq_true, beq_iff_eq, beq_iff_eq]
  rcases (show x.toInt = 0 ∨ x.toInt = 1 by omega) with h5 | h5
  · exact Or.inl (Int32.toInt_inj.mp (by rw [h5, e0]))
  · exact Or.inr (Int32.toInt_inj.mp (by rw [h5, e1]))
theorem aretok_ok {B : aB} {g : Nat → Int} {ρ : List Nat} {ty : Option FieldType} {ret : Option (aV × Nat × aV)} {r : Option Value} (hg : okG B g) (h : aretok B ty ret = true) (hr : okR0 g ρ (ret.map (fun q => q.1)) r) : mretok ty r = true := by
  unfold aretok at h
  split at h
  · have hr : r = none := hr
    rw [hr]; rfl
  · obtain ⟨v, rfl, hv⟩ := hr
    obtain ⟨x, rfl⟩ := aint_ok hg h hv
    rfl
  · obtain ⟨v, rfl, hv⟩ := hr
    split at h
    · rename_i q hq
      obtain ⟨x, rfl, h1, h2⟩ := arng_ok hg hq hv
      obtain ⟨h3, h4⟩ := mand h
      have h3 := of_decide_eq_true h3
      have h4 := of_decide_eq_true h4
      exact bit_of (by omega) (by omega)
    · cases h
  · obtain ⟨v, rfl, hv⟩ := hr
    split at h
    · rename_i q hq
      obtain ⟨x, rfl, h1, h2⟩ := arng_ok hg hq hv
      obtain ⟨h3, h4⟩ := mand h
      have h3 := of_decide_eq_true h3
      have h4 := of_decide_eq_true h4
      exact bit_of (by omega) (by omega)
    · cases h
  · obtain ⟨v, rfl, hv⟩ := hr
    obtain ⟨a, ea⟩ := aobj_mrq h hv
    cases v with
    | ref k => rfl
    | null => rfl
    | _ => cases ea
  · cases h
/-- the method's run, once its heads are known -/
theorem CT_of {B : aB} {rI : Nat → Option aR} {d : Nat} {c : aCT} {M : mM} {A : aAn} (hM : mmOf c.1 = some M) (h1 : Nat.ble c.2.1.length M.2.2.1 = true) (h2 : Nat.ble c.2.1.length 20 = true) (h3 : A.2.1.isEmpty = true) (h4 : ajL B (aext rI (aentL 0 c.2.1 ++ aentF c.2.2.1) A.1) A.1 = true) (h5 : (match alowE B A.1 (aminus (1000000000000, []) A.2.2) with | some m => decide (0 ≤ m) | none => false) = true) (h6 : aretok B M.2.2.2.1 c.2.2.2.1 = true) (h7 : (match c.2.2.2.1 with | some q => Nat.beq q.2.1 0 | none => true) = true)
    (hG : ∀ (g : Nat → Int) (ρ : List Nat) (h0 : mS), okG B g → ∀ m, Gs rI g ρ c.2.2.2.2 h0 d M.2.2.1 (mgd M.2.2.2.2.2.2.2 M.2.2.2.2.1) (fun r h' => okH rI g ρ h'.1 ∧ okFr ρ c.2.2.2.2 h0 h' ∧ okR0 g ρ (artt c) r) 0 m (0, A)) : CT rI B (d + 1) c := by
  intro g ρ as h hg hH hA hT
  obtain ⟨a1, a2⟩ := hA.mone
  have a3 := Nat.le_of_ble_eq_true h2
  have hg0 : ∀ j, mget (lv_args 0 as) j = as[j]? := fun j => by
    have := lv_args_get as 0 j a1
    rw [Nat.zero_add] at this
    exact this
  have hL0 : okL g ρ (aentL 0 c.2.1 ++ aentF c.2.2.1) (lv_args 0 as) h.1 := by
    intro q hq
    rcases List.mem_append.mp hq with hq | hq
    · obtain ⟨j, v, e1, e2, e3, e4⟩ := aentL_ok 0 hA q hq
      refine ⟨v, ?_, e4⟩
      rw [e1, Nat.zero_add, vget_l (Nat.blt_eq.mpr (by omega)), hg0]
      exact e3
    · obtain ⟨w, hw, rfl⟩ := List.mem_map.mp hq
      obtain ⟨v, e1, e2⟩ := hT w hw
      refine ⟨v, ?_, e2⟩
      show vget _ _ (1000 + w.1) = _
      rw [vget_f, hg0]
      exact e1
  have hL : okL g ρ A.1 (lv_args 0 as) h.1 := by
    intro q hq
    have := List.all_eq_true.mp h4 q hq
    split at this
    · rename_i t ht
      obtain ⟨v, e1, e2⟩ := (aext_ok hH hL0 A.1).get ht
      exact ⟨v, e1, asub_ok hg this e2⟩
    · cases this
  have hK : okK g ρ (lv_args 0 as) h.1 A.2.1 [] := by
    rw [List.isEmpty_iff] at h3
    rw [h3]
    exact trivial
  obtain ⟨b, hb, r, h', k1, k2, k3, k4⟩ := hG g ρ h hg (mval (lv_args 0 as) h.1 A.2.2) (lv_args 0 as) [] h ⟨hH, hL, hK, lv_args_mone as 0 a1, fun _ _ _ _ => rfl, rfl, Or.inr RR.refl⟩ (Int.le_refl _)
  have hb : (b : Int) ≤ mval (lv_args 0 as) h.1 A.2.2 + 0 := hb
  have hfu : b ≤ mfuel := by
    split at h5
    · rename_i m hm
      have h5 := of_decide_eq_true h5
      have := alowE_ok hg hL hm
      rw [aminus_val] at this
      have e : mval (lv_args 0 as) h.1 ((1000000000000, []) : aM) = 1000000000000 := rfl
      rw [e] at this
      show _ ≤ 1000000000000
      omega
    · cases h5
  have k1 := mloop_le k1 hfu
  refine ⟨r, h', ?_, k2, k3, ?_⟩
  · unfold mcall
    rw [hM]
    have hb : (Nat.ble as.length M.2.2.1 && as.all mone) = true := by
      rw [a1, a2, h1]
      rfl
    simp only [hb, cond_true]
    have k1 : mloop (mcall d) none M.2.2.1 (mgd M.2.2.2.2.2.2.2 M.2.2.2.2.1) mfuel 0 (lv_args 0 as) [] h = some (r, h') := k1
    rw [k1]
    simp only [aretok_ok hg h6 k4, cond_true]
  · unfold okRt
    unfold artt at k4
    split
    · rename_i e
      rw [e] at k4
      exact k4
    · rename_i q e
      rw [e] at k4 h7
      obtain ⟨v, e1, e2⟩ := k4
      exact ⟨v, e1, e2, fun hne => absurd (mlen h7) hne⟩
theorem acheck_ok {B : aB} {rI : Nat → Option aR} {ct : Nat → Option aCT} {d : Nat} {c : aCT} {anl : List (Nat × aAn)} {cal : List (Nat × Nat)} {f : Nat} (ha : acheck B rI ct c anl cal f = true) (hct : ∀ i q, ct i = some q → CT rI B d q) : CT rI B (d + 1) c := by
  unfold acheck at ha
  split at ha
  · cases ha
  · rename_i M hM
    split at ha
    · cases ha
    · rename_i A hA
      obtain ⟨h1, s2⟩ := mand ha
      obtain ⟨h2, s3⟩ := mand s2
      obtain ⟨h3, s4⟩ := mand s3
      obtain ⟨h4, s5⟩ := mand s4
      obtain ⟨h5, s6⟩ := mand s5
      obtain ⟨h6, s7⟩ := mand s6
      obtain ⟨h7, h8⟩ := mand s7
      refine CT_of hM h1 h2 h3 h4 h5 h6 h7 (fun g ρ h0 hg m => ?_)
      refine aheads_ok (ex := fun _ => false) (f := f) (ca := alook cal) (ct := ct) (rt := artt c) (ann := anaf anl) (Int.le_refl 0) hg hct (fun r h' q1 q2 q3 => ⟨q1, q2, q3⟩) (fun pc _ => ?_) (fun pc A m h1 h2 => by cases h2) m 0 A hA
      by_cases hpc : ∃ q ∈ anl, q.1 = pc
      · obtain ⟨q, hq, rfl⟩ := hpc
        exact List.all_eq_true.mp h8 q hq
      · unfold ahead
        have : anaf anl pc = none := by
          unfold anaf
          rw [Option.map_eq_none_iff, List.find?_eq_none]
          intro q hq h9
          exact hpc ⟨q, hq, mlen h9⟩
        rw [this]
