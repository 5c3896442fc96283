/-! fields that no instruction of some methods writes -/
def fk (F : Nat → Nat → Bool) (h h' : List mC) : Prop := ∀ (k ci : Nat) (fs : List Value), h[k]? = some (.inr (ci, fs)) → ∃ fs', h'[k]? = some (.inr (ci, fs')) ∧ ∀ j, F ci j = true → fs'[j]? = fs[j]?
theorem fk_refl {F : Nat → Nat → Bool} {h : List mC} : fk F h h := fun _ _ fs e => ⟨fs, e, fun _ _ => rfl⟩
theorem fk.trans {F : Nat → Nat → Bool} {h1 h2 h3 : List mC} (a : fk F h1 h2) (b : fk F h2 h3) : fk F h1 h3 := by
  intro k ci fs e
  obtain ⟨fs2, e2, f2⟩ := a k ci fs e
  obtain ⟨fs3, e3, f3⟩ := b k ci fs2 e2
  exact ⟨fs3, e3, fun j hj => by rw [f3 j hj, f2 j hj]⟩
theorem fk_app {F : Nat → Nat → Bool} {h : List mC} {c : mC} : fk F h (h ++ [c]) := by
  intro k ci fs e
  refine ⟨fs, ?_, fun _ _ => rfl⟩
  rw [List.getElem?_append_left (List.getElem?_eq_some_iff.mp e).1]
  exact e
theorem fk_arr {F : Nat → Nat → Bool} {h : List mC} {a : Nat} {q q' : Nat × (List Int32 ⊕ List (Option Nat))} (e : h[a]? = some (.inl q)) : fk F h (h.set a (.inl q')) := by
  intro k ci fs e1
  refine ⟨fs, ?_, fun _ _ => rfl⟩
  rw [List.getElem?_set_ne (fun he => by subst he; rw [e] at e1; cases e1)]
  exact e1
theorem fk_put {F : Nat → Nat → Bool} {h : List mC} {a ci k : Nat} {fs : List Value} {v : Value} (hF : F ci k = false) (e : h[a]? = some (.inr (ci, fs))) : fk F h (h.set a (.inr (ci, fs.set k v))) := by
  intro k' ci' fs' e1
  by_cases he : a = k'
  · subst he
    rw [e] at e1
    cases e1
    refine ⟨fs.set k v, List.getElem?_set_self (List.getElem?_eq_some_iff.mp e).1, fun j hj => ?_⟩
    rw [List.getElem?_set_ne (fun hk => by subst hk; rw [hF] at hj; cases hj)]
  · refine ⟨fs', ?_, fun _ _ => rfl⟩
    rw [List.getElem?_set_ne he]
    exact e1
def Fo (F : Nat → Nat → Bool) (h : mS) (o : mO) : Prop := ∀ (p : Nat) (l : mL) (s : List Value) (h1 : mS), o = .inl (p, l, s, h1) → fk F h.1 h1.1
def fOk (F : Nat → Nat → Bool) (x : mI) : Bool := match x with
  | (.putfield _, _, a, b, _, _) => !F a b
  | _ => true
/-- the methods that a method calls -/
def fCl (x : mI) : Option Nat := match x with
  | (.invokevirtual _, _, a, _, _, _) => bif Nat.blt a 10 then none else some (a - 10)
  | (.invokespecial _, _, a, _, _, _) => bif Nat.blt a 10 then none else some (a - 10)
  | (.invokestatic _, _, a, _, _, _) => bif Nat.blt a 10 then none else some (a - 10)
  | _ => none
section FO
variable {F : Nat → Nat → Bool} {pc : Nat} {lv : mL} {st : List Value} {h : mS} {o : mO}
theorem fo_nx {lv' : mL} {st' : List Value} (hs : mnx pc lv' st' h = some o) : Fo F h o := by
  cases hs
  intro p l s h1 e
  cases e
  exact fk_refl
theorem fo_bin {f : Int32 → Int32 → Int32} (hs : mbin f pc lv st h = some o) : Fo F h o := by
  unfold mbin at hs
  try simp only [cond_eq_ite] at hs
  repeat' (split at hs)
  all_goals first
    | (cases hs; done)
    | exact fo_nx hs
    | (cases hs; intro p l s h1 e; cases e; first | exact fk_app | (exact fk_arr ‹_›))
theorem fo_div {f : Int32 → Int32 → Int32} (hs : mdiv f pc lv st h = some o) : Fo F h o := by
  unfold mdiv at hs
  try simp only [cond_eq_ite] at hs
  repeat' (split at hs)
  all_goals first
    | (cases hs; done)
    | exact fo_nx hs
    | (cases hs; intro p l s h1 e; cases e; first | exact fk_app | (exact fk_arr ‹_›))
theorem fo_un {f : Int32 → Int32} (hs : mun f pc lv st h = some o) : Fo F h o := by
  unfold mun at hs
  try simp only [cond_eq_ite] at hs
  repeat' (split at hs)
  all_goals first
    | (cases hs; done)
    | exact fo_nx hs
    | (cases hs; intro p l s h1 e; cases e; first | exact fk_app | (exact fk_arr ‹_›))
theorem fo_if {C : Int32 → Prop} [DecidablePred C] {t : Nat} (hs : mif C pc t lv st h = some o) : Fo F h o := by
  unfold mif at hs
  try simp only [cond_eq_ite] at hs
  repeat' (split at hs)
  all_goals first
    | (cases hs; done)
    | exact fo_nx hs
    | (cases hs; intro p l s h1 e; cases e; first | exact fk_app | (exact fk_arr ‹_›))
theorem fo_if2 {C : Int32 → Int32 → Prop} [∀ x y, Decidable (C x y)] {t : Nat} (hs : mif2 C pc t lv st h = some o) : Fo F h o := by
  unfold mif2 at hs
  try simp only [cond_eq_ite] at hs
  repeat' (split at hs)
  all_goals first
    | (cases hs; done)
    | exact fo_nx hs
    | (cases hs; intro p l s h1 e; cases e; first | exact fk_app | (exact fk_arr ‹_›))
theorem fo_ld {ok : Value → Bool} {i : Nat} (hs : mld ok i pc lv st h = some o) : Fo F h o := by
  unfold mld at hs
  try simp only [cond_eq_ite] at hs
  repeat' (split at hs)
  all_goals first
    | (cases hs; done)
    | exact fo_nx hs
    | (cases hs; intro p l s h1 e; cases e; first | exact fk_app | (exact fk_arr ‹_›))
theorem fo_st {ok : Value → Bool} {nL i : Nat} (hs : mst ok nL i pc lv st h = some o) : Fo F h o := by
  unfold mst at hs
  try simp only [cond_eq_ite] at hs
  repeat' (split at hs)
  all_goals first
    | (cases hs; done)
    | exact fo_nx hs
    | (cases hs; intro p l s h1 e; cases e; first | exact fk_app | (exact fk_arr ‹_›))
theorem fo_ifa {eq : Bool} {t : Nat} (hs : mifa eq pc t lv st h = some o) : Fo F h o := by
  unfold mifa at hs
  try simp only [cond_eq_ite] at hs
  repeat' (split at hs)
  all_goals first
    | (cases hs; done)
    | exact fo_nx hs
    | (cases hs; intro p l s h1 e; cases e; first | exact fk_app | (exact fk_arr ‹_›))
theorem fo_ifn {eq : Bool} {t : Nat} (hs : mifn eq pc t lv st h = some o) : Fo F h o := by
  unfold mifn at hs
  try simp only [cond_eq_ite] at hs
  repeat' (split at hs)
  all_goals first
    | (cases hs; done)
    | exact fo_nx hs
    | (cases hs; intro p l s h1 e; cases e; first | exact fk_app | (exact fk_arr ‹_›))
theorem fo_getf {ci k : Nat} (hs : mgetf ci k pc lv st h = some o) : Fo F h o := by
  unfold mgetf at hs
  try simp only [cond_eq_ite] at hs
  repeat' (split at hs)
  all_goals first
    | (cases hs; done)
    | exact fo_nx hs
    | (cases hs; intro p l s h1 e; cases e; first | exact fk_app | (exact fk_arr ‹_›))
theorem fo_putf {ci k : Nat} (hF : F ci k = false) (hs : mputf ci k pc lv st h = some o) : Fo F h o := by
  unfold mputf at hs
  split at hs
  · rename_i v a r
    split at hs
    · rename_i q hq
      obtain ⟨ci', fs⟩ := q
      simp only [cond_eq_ite] at hs
      split at hs
      · rename_i hb
        obtain ⟨hb, -⟩ := mand hb
        have hb := mlen hb
        subst hb
        cases hs
        intro p l s h1 e
        cases e
        exact fk_put hF hq
      · cases hs
    · cases hs
  · cases hs
theorem fo_new {ci : Nat} (hs : mnew ci pc lv st h = some o) : Fo F h o := by
  unfold mnew at hs
  try simp only [cond_eq_ite] at hs
  repeat' (split at hs)
  all_goals first
    | (cases hs; done)
    | exact fo_nx hs
    | (cases hs; intro p l s h1 e; cases e; first | exact fk_app | (exact fk_arr ‹_›))
theorem fo_newa {t : Nat} (hs : mnewa t pc lv st h = some o) : Fo F h o := by
  unfold mnewa at hs
  try simp only [cond_eq_ite] at hs
  repeat' (split at hs)
  all_goals first
    | (cases hs; done)
    | exact fo_nx hs
    | (cases hs; intro p l s h1 e; cases e; first | exact fk_app | (exact fk_arr ‹_›))
theorem fo_newq {t : Nat} (hs : mnewq t pc lv st h = some o) : Fo F h o := by
  unfold mnewq at hs
  try simp only [cond_eq_ite] at hs
  repeat' (split at hs)
  all_goals first
    | (cases hs; done)
    | exact fo_nx hs
    | (cases hs; intro p l s h1 e; cases e; first | exact fk_app | (exact fk_arr ‹_›))
theorem fo_ald {t : Nat} {scr : Option (Nat × (Nat → Int32))} (hs : mald t pc scr lv st h = some o) : Fo F h o := by
  unfold mald at hs
  try simp only [cond_eq_ite] at hs
  repeat' (split at hs)
  all_goals first
    | (cases hs; done)
    | exact fo_nx hs
    | (cases hs; intro p l s h1 e; cases e; first | exact fk_app | (exact fk_arr ‹_›))
theorem fo_ast {t : Nat} (hs : mast t pc lv st h = some o) : Fo F h o := by
  unfold mast at hs
  try simp only [cond_eq_ite] at hs
  repeat' (split at hs)
  all_goals first
    | (cases hs; done)
    | exact fo_nx hs
    | (cases hs; intro p l s h1 e; cases e; first | exact fk_app | (exact fk_arr ‹_›))
theorem fo_aldq  (hs : maldq pc lv st h = some o) : Fo F h o := by
  unfold maldq at hs
  try simp only [cond_eq_ite] at hs
  repeat' (split at hs)
  all_goals first
    | (cases hs; done)
    | exact fo_nx hs
    | (cases hs; intro p l s h1 e; cases e; first | exact fk_app | (exact fk_arr ‹_›))
theorem fo_astq  (hs : mastq pc lv st h = some o) : Fo F h o := by
  unfold mastq at hs
  try simp only [cond_eq_ite] at hs
  repeat' (split at hs)
  all_goals first
    | (cases hs; done)
    | exact fo_nx hs
    | (cases hs; intro p l s h1 e; cases e; first | exact fk_app | (exact fk_arr ‹_›))
theorem fo_alen {scr : Option (Nat × (Nat → Int32))} (hs : malen pc scr lv st h = some o) : Fo F h o := by
  unfold malen at hs
  try simp only [cond_eq_ite] at hs
  repeat' (split at hs)
  all_goals first
    | (cases hs; done)
    | exact fo_nx hs
    | (cases hs; intro p l s h1 e; cases e; first | exact fk_app | (exact fk_arr ‹_›))
theorem fo_cpy  (hs : mcpy pc lv st h = some o) : Fo F h o := by
  unfold mcpy at hs
  try simp only [cond_eq_ite] at hs
  repeat' (split at hs)
  all_goals first
    | (cases hs; done)
    | exact fo_nx hs
    | (cases hs; intro p l s h1 e; cases e; first | exact fk_app | (exact fk_arr ‹_›))
theorem fo_sw {off : Int} (hs : msw pc off lv st h = some o) : Fo F h o := by
  unfold msw at hs
  try simp only [cond_eq_ite] at hs
  repeat' (split at hs)
  all_goals first
    | (cases hs; done)
    | exact fo_nx hs
    | (cases hs; intro p l s h1 e; cases e; first | exact fk_app | (exact fk_arr ‹_›))
theorem fo_gets {k : Nat} (hs : mgets k pc lv st h = some o) : Fo F h o := by
  unfold mgets at hs
  simp only [cond_eq_ite] at hs
  repeat' (split at hs)
  all_goals first
    | (cases hs; done)
    | exact fo_nx hs
theorem fo_bld (hs : mbld pc lv st h = some o) : Fo F h o := by
  unfold mbld at hs
  repeat' (split at hs)
  all_goals first
    | (cases hs; done)
    | exact fo_nx hs
    | exact fo_ald (scr := none) hs
theorem fo_spec {a : Nat} (hs : mspec a pc lv st h = some o) : Fo F h o := by
  unfold mspec at hs
  simp only [cond_eq_ite] at hs
  repeat' (split at hs)
  all_goals first
    | (cases hs; done)
    | exact fo_nx hs
    | exact fo_cpy hs
theorem fo_inv {kind y b c' : Nat} (hs : minv kind y b c' st h = some o) : Fo F h o := by
  obtain ⟨q, rfl⟩ := minv_call hs
  intro p l s h1 e
  cases e
set_option maxHeartbeats 4000000 in
set_option maxRecDepth 100000 in
theorem mstep_fo {x : mI} {nL : Nat} {scr : Option (Nat × (Nat → Int32))} (hx : fOk F x = true) (hs : mstep scr nL pc lv st h x = some o) : Fo F h o := by
  obtain ⟨i, len, a, b, c3, d⟩ := x
  cases i with
  | aconst_null => exact fo_nx hs
  | aload i => exact fo_ld hs
  | aload_n i => exact fo_ld hs
  | iload i => exact fo_ld hs
  | iload_n i => exact fo_ld hs
  | astore i => exact fo_st hs
  | astore_n i => exact fo_st hs
  | istore i => exact fo_st hs
  | istore_n i => exact fo_st hs
  | iconst n => exact fo_nx hs
  | bipush n => exact fo_nx hs
  | sipush n => exact fo_nx hs
  | ldc idx =>
    simp only [mstep, cond_eq_ite] at hs
    split at hs <;> exact fo_nx hs
  | iadd => exact fo_bin hs
  | isub => exact fo_bin hs
  | imul => exact fo_bin hs
  | iand => exact fo_bin hs
  | ior => exact fo_bin hs
  | ixor => exact fo_bin hs
  | ishl => exact fo_bin hs
  | ishr => exact fo_bin hs
  | iushr => exact fo_bin hs
  | idiv => exact fo_div hs
  | irem => exact fo_div hs
  | ineg => exact fo_un hs
  | i2c => exact fo_un hs
  | iinc i n =>
    simp only [mstep, cond_eq_ite] at hs
    repeat' (split at hs)
    all_goals first | exact fo_nx hs | (cases hs; done)
  | dup =>
    simp only [mstep, cond_eq_ite] at hs
    repeat' (split at hs)
    all_goals first | exact fo_nx hs | (cases hs; done)
  | dup2 =>
    simp only [mstep, cond_eq_ite] at hs
    repeat' (split at hs)
    all_goals first | exact fo_nx hs | (cases hs; done)
  | pop =>
    simp only [mstep, cond_eq_ite] at hs
    repeat' (split at hs)
    all_goals first | exact fo_nx hs | (cases hs; done)
  | goto off => exact fo_nx hs
  | ifCond cd off => cases cd <;> exact fo_if hs
  | if_icmp cd off => cases cd <;> exact fo_if2 hs
  | if_acmp cd off => cases cd <;> exact fo_ifa hs
  | ifnull off => exact fo_ifn hs
  | ifnonnull off => exact fo_ifn hs
  | tableswitch df lo hi os =>
    simp only [mstep] at hs
    repeat' (split at hs)
    all_goals first | exact fo_sw hs | (cases hs; done)
  | lookupswitch df ps =>
    simp only [mstep] at hs
    repeat' (split at hs)
    all_goals first | exact fo_sw hs | (cases hs; done)
  | getfield idx =>
    simp only [mstep, cond_eq_ite] at hs
    split at hs
    · exact fo_gets hs
    · exact fo_getf hs
  | getstatic idx => exact fo_nx hs
  | i2b => exact fo_un hs
  | putfield idx => exact fo_putf (by have hx : (!F a b) = true := hx; rw [Bool.not_eq_true'] at hx; exact hx) hs
  | new idx => exact fo_new hs
  | newarray ty => exact fo_newa hs
  | anewarray idx => exact fo_newq hs
  | arraylength => exact fo_alen hs
  | iaload => exact fo_ald hs
  | baload => exact fo_bld hs
  | iastore => exact fo_ast hs
  | bastore => exact fo_ast hs
  | aaload => exact fo_aldq hs
  | aastore => exact fo_astq hs
  | invokevirtual idx =>
    simp only [mstep, cond_eq_ite] at hs
    split at hs
    · exact fo_spec hs
    · exact fo_inv hs
  | invokespecial idx =>
    simp only [mstep, cond_eq_ite] at hs
    split at hs
    · exact fo_spec hs
    · exact fo_inv hs
  | invokestatic idx =>
    simp only [mstep, cond_eq_ite] at hs
    split at hs
    · exact fo_spec hs
    · exact fo_inv hs
  | ireturn =>
    simp only [mstep] at hs
    split at hs
    · cases hs; intro p l s h1 e; cases e
    · cases hs
  | areturn =>
    simp only [mstep, cond_eq_ite] at hs
    repeat' (split at hs)
    all_goals first | (cases hs; done) | (cases hs; intro p l s h1 e; cases e; done)
  | return_ =>
    simp only [mstep] at hs
    split at hs
    · cases hs; intro p l s h1 e; cases e
    · cases hs
  | _ => exact nomatch (show (none : Option mO) = some o from hs)
end FO
theorem minv_y {kind y b c : Nat} {st : List Value} {h : mS} {q : Nat × List Value × List Value} (hs : minv kind y b c st h = some (.inr (.inr q))) : q.1 = y := by
  unfold minv at hs
  simp only [cond_eq_ite] at hs
  repeat' (split at hs)
  all_goals first
    | (cases hs; done)
    | (cases hs; rfl)
theorem mspec_y {a pc : Nat} {lv : mL} {st : List Value} {h : mS} {q : Nat × List Value × List Value} (hs : mspec a pc lv st h = some (.inr (.inr q))) : False := by
  unfold mspec at hs
  simp only [cond_eq_ite, mnx, mcpy] at hs
  repeat' (split at hs)
  all_goals cases hs
theorem nx_y {pc : Nat} {lv : mL} {st : List Value} {h : mS} {q : Nat × List Value × List Value} (hs : mnx pc lv st h = some (.inr (.inr q))) : False := by cases hs
set_option maxHeartbeats 4000000 in
set_option maxRecDepth 100000 in
theorem mstep_call {scr : Option (Nat × (Nat → Int32))} {nL pc : Nat} {lv : mL} {st : List Value} {h : mS} {x : mI} {q : Nat × List Value × List Value} (hs : mstep scr nL pc lv st h x = some (.inr (.inr q))) : fCl x = some q.1 := by
  obtain ⟨i, len, a, b, c3, d⟩ := x
  cases i with
  | invokevirtual idx =>
    simp only [mstep, cond_eq_ite] at hs
    show (bif Nat.blt a 10 then none else some (a - 10)) = _
    rw [cond_eq_ite]
    split at hs
    · exact (mspec_y hs).elim
    · rename_i hb
      rw [if_neg hb, minv_y hs]
  | invokespecial idx =>
    simp only [mstep, cond_eq_ite] at hs
    show (bif Nat.blt a 10 then none else some (a - 10)) = _
    rw [cond_eq_ite]
    split at hs
    · exact (mspec_y hs).elim
    · rename_i hb
      rw [if_neg hb, minv_y hs]
  | invokestatic idx =>
    simp only [mstep, cond_eq_ite] at hs
    show (bif Nat.blt a 10 then none else some (a - 10)) = _
    rw [cond_eq_ite]
    split at hs
    · exact (mspec_y hs).elim
    · rename_i hb
      rw [if_neg hb, minv_y hs]
  | ifCond cd off => cases cd <;> (exfalso; simp only [mstep, mif, mnx] at hs; repeat' (split at hs)) <;> cases hs
  | if_icmp cd off => cases cd <;> (exfalso; simp only [mstep, mif2, mnx] at hs; repeat' (split at hs)) <;> cases hs
  | if_acmp cd off => cases cd <;> (exfalso; simp only [mstep, mifa, mnx, cond_eq_ite] at hs; repeat' (split at hs)) <;> cases hs
  | _ =>
    exfalso
    simp only [mstep, mld, mst, mbin, mdiv, mun, mifn, mgetf, mputf, mnew, mnewa, mnewq, mald, mast, mbld, mgets, maldq, mastq, malen, msw, mnx, cond_eq_ite] at hs
    repeat' (split at hs)
    all_goals cases hs
/-- a set of methods, closed under calls, none of which writes a field of F -/
def fSet (F : Nat → Nat → Bool) (S : List Nat) : Bool := S.all (fun y => match mmOf y with
  | none => true
  | some M => (List.range M.2.2.2.2.2.2.2).all (fun pc => match mgd M.2.2.2.2.2.2.2 M.2.2.2.2.1 pc with
    | none => true
    | some x => fOk F x && (match fCl x with | none => true | some y' => S.elem y')))
theorem mloop_fk {F : Nat → Nat → Bool} {S : List Nat} {cal : Nat → List Value → mS → Option (Option Value × mS)} (hc : ∀ y as h r h', y ∈ S → cal y as h = some (r, h') → fk F h.1 h'.1) {scr : Option (Nat × (Nat → Int32))} {nL : Nat} {tab : Nat → Option mI} (ht : ∀ pc x, tab pc = some x → fOk F x = true ∧ ∀ y, fCl x = some y → y ∈ S) : ∀ (n pc : Nat) (lv : mL) (st : List Value) (h : mS) (r : Option Value) (h' : mS), mloop cal scr nL tab n pc lv st h = some (r, h') → fk F h.1 h'.1 := by
  intro n
  induction n with
  | zero => intro pc lv st h r h' hs; cases hs
  | succ n ih =>
    intro pc lv st h r h' hs
    unfold mloop at hs
    split at hs
    · cases hs
    · rename_i x hx
      split at hs
      · cases hs
      · rename_i pc' lv' st' h1 hst
        exact (mstep_fo (ht _ _ hx).1 hst _ _ _ _ rfl).trans (ih _ _ _ _ _ _ hs)
      · cases hs
        exact fk_refl
      · rename_i y as rest hst
        split at hs
        · cases hs
        · rename_i r1 h1 hcal
          exact (hc _ _ _ _ _ ((ht _ _ hx).2 _ (mstep_call hst)) hcal).trans (ih _ _ _ _ _ _ hs)
theorem mcall_fk {F : Nat → Nat → Bool} {S : List Nat} (hS : fSet F S = true) : ∀ (d y : Nat) (as : List Value) (h : mS) (r : Option Value) (h' : mS), y ∈ S → mcall d y as h = some (r, h') → fk F h.1 h'.1 := by
  intro d
  induction d with
  | zero => intro y as h r h' _ hs; cases hs
  | succ d ih =>
    intro y as h r h' hy hs
    have hM := List.all_eq_true.mp hS y hy
    unfold mcall at hs
    simp only [cond_eq_ite] at hs
    split at hs
    · cases hs
    · rename_i M hMy
      rw [hMy] at hM
      dsimp only at hM
      repeat' (split at hs)
      all_goals first
        | (cases hs; done)
        | skip
      rename_i hl _
      cases hs
      refine mloop_fk ih (fun pc x hx => ?_) _ _ _ _ _ _ _ hl
      have := List.all_eq_true.mp hM pc (List.mem_range.mpr (mgd_lt hx))
      rw [hx] at this
      obtain ⟨h1, h2⟩ := mand this
      refine ⟨h1, fun y' hy' => ?_⟩
      rw [hy'] at h2
      exact elem_mem h2
/-- a run has one end -/
theorem mR_and {d y : Nat} {as : List Value} {h : mS} {P Q : Option Value → mS → Prop} (a : mR d y as h P) (b : mR d y as h Q) : mR d y as h (fun r h' => P r h' ∧ Q r h') := by
  obtain ⟨r, h', e1, e2⟩ := a
  obtain ⟨r', h'', e3, e4⟩ := b
  rw [e1] at e3
  cases e3
  exact ⟨r, h', e1, e2, e4⟩
theorem mR_le {d d' y : Nat} {as : List Value} {h : mS} {P : Option Value → mS → Prop} (a : mR d y as h P) (hd : d ≤ d') : mR d' y as h P := by
  obtain ⟨r, h', e1, e2⟩ := a
  exact ⟨r, h', mcall_le hd e1, e2⟩
theorem mR_fk {F : Nat → Nat → Bool} {S : List Nat} (hS : fSet F S = true) {d y : Nat} {as : List Value} {h : mS} {P : Option Value → mS → Prop} (hy : y ∈ S) (a : mR d y as h P) : mR d y as h (fun r h' => P r h' ∧ fk F h.1 h'.1) := by
  obtain ⟨r, h', e1, e2⟩ := a
  exact ⟨r, h', e1, e2, mcall_fk hS d y as h r h' hy e1⟩
