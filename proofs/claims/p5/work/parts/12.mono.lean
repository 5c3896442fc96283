/-- no step takes cells away -/
def Mo (h : mS) (o : mO) : Prop := ∀ (p : Nat) (l : mL) (s : List Value) (h1 : mS), o = .inl (p, l, s, h1) → h.1.length ≤ h1.1.length ∧ h.2 ≤ h1.2
section MO
variable {pc : Nat} {lv : mL} {st : List Value} {h : mS} {o : mO}
theorem mo_nx {lv' : mL} {st' : List Value} (hs : mnx pc lv' st' h = some o) : Mo h o := by
  cases hs
  intro p l s h1 e
  cases e
  exact ⟨Nat.le_refl _, Nat.le_refl _⟩
theorem mo_bin {f : Int32 → Int32 → Int32} (hs : mbin f pc lv st h = some o) : Mo h o := by
  unfold mbin at hs
  try simp only [cond_eq_ite] at hs
  repeat' (split at hs)
  all_goals first
    | (cases hs; done)
    | exact mo_nx hs
    | (cases hs; intro p l s h1 e; cases e; exact ⟨by simp, by simp⟩)
theorem mo_div {f : Int32 → Int32 → Int32} (hs : mdiv f pc lv st h = some o) : Mo h o := by
  unfold mdiv at hs
  try simp only [cond_eq_ite] at hs
  repeat' (split at hs)
  all_goals first
    | (cases hs; done)
    | exact mo_nx hs
    | (cases hs; intro p l s h1 e; cases e; exact ⟨by simp, by simp⟩)
theorem mo_un {f : Int32 → Int32} (hs : mun f pc lv st h = some o) : Mo h o := by
  unfold mun at hs
  try simp only [cond_eq_ite] at hs
  repeat' (split at hs)
  all_goals first
    | (cases hs; done)
    | exact mo_nx hs
    | (cases hs; intro p l s h1 e; cases e; exact ⟨by simp, by simp⟩)
theorem mo_if {C : Int32 → Prop} [DecidablePred C] {t : Nat} (hs : mif C pc t lv st h = some o) : Mo h o := by
  unfold mif at hs
  try simp only [cond_eq_ite] at hs
  repeat' (split at hs)
  all_goals first
    | (cases hs; done)
    | exact mo_nx hs
    | (cases hs; intro p l s h1 e; cases e; exact ⟨by simp, by simp⟩)
theorem mo_if2 {C : Int32 → Int32 → Prop} [∀ x y, Decidable (C x y)] {t : Nat} (hs : mif2 C pc t lv st h = some o) : Mo h o := by
  unfold mif2 at hs
  try simp only [cond_eq_ite] at hs
  repeat' (split at hs)
  all_goals first
    | (cases hs; done)
    | exact mo_nx hs
    | (cases hs; intro p l s h1 e; cases e; exact ⟨by simp, by simp⟩)
theorem mo_ld {ok : Value → Bool} {i : Nat} (hs : mld ok i pc lv st h = some o) : Mo h o := by
  unfold mld at hs
  try simp only [cond_eq_ite] at hs
  repeat' (split at hs)
  all_goals first
    | (cases hs; done)
    | exact mo_nx hs
    | (cases hs; intro p l s h1 e; cases e; exact ⟨by simp, by simp⟩)
theorem mo_st {ok : Value → Bool} {nL i : Nat} (hs : mst ok nL i pc lv st h = some o) : Mo h o := by
  unfold mst at hs
  try simp only [cond_eq_ite] at hs
  repeat' (split at hs)
  all_goals first
    | (cases hs; done)
    | exact mo_nx hs
    | (cases hs; intro p l s h1 e; cases e; exact ⟨by simp, by simp⟩)
theorem mo_ifa {eq : Bool} {t : Nat} (hs : mifa eq pc t lv st h = some o) : Mo h o := by
  unfold mifa at hs
  try simp only [cond_eq_ite] at hs
  repeat' (split at hs)
  all_goals first
    | (cases hs; done)
    | exact mo_nx hs
    | (cases hs; intro p l s h1 e; cases e; exact ⟨by simp, by simp⟩)
theorem mo_ifn {eq : Bool} {t : Nat} (hs : mifn eq pc t lv st h = some o) : Mo h o := by
  unfold mifn at hs
  try simp only [cond_eq_ite] at hs
  repeat' (split at hs)
  all_goals first
    | (cases hs; done)
    | exact mo_nx hs
    | (cases hs; intro p l s h1 e; cases e; exact ⟨by simp, by simp⟩)
theorem mo_getf {ci k : Nat} (hs : mgetf ci k pc lv st h = some o) : Mo h o := by
  unfold mgetf at hs
  try simp only [cond_eq_ite] at hs
  repeat' (split at hs)
  all_goals first
    | (cases hs; done)
    | exact mo_nx hs
    | (cases hs; intro p l s h1 e; cases e; exact ⟨by simp, by simp⟩)
theorem mo_putf {ci k : Nat} (hs : mputf ci k pc lv st h = some o) : Mo h o := by
  unfold mputf at hs
  try simp only [cond_eq_ite] at hs
  repeat' (split at hs)
  all_goals first
    | (cases hs; done)
    | exact mo_nx hs
    | (cases hs; intro p l s h1 e; cases e; exact ⟨by simp, by simp⟩)
theorem mo_new {ci : Nat} (hs : mnew ci pc lv st h = some o) : Mo h o := by
  unfold mnew at hs
  try simp only [cond_eq_ite] at hs
  repeat' (split at hs)
  all_goals first
    | (cases hs; done)
    | exact mo_nx hs
    | (cases hs; intro p l s h1 e; cases e; exact ⟨by simp, by simp⟩)
theorem mo_newa {t : Nat} (hs : mnewa t pc lv st h = some o) : Mo h o := by
  unfold mnewa at hs
  try simp only [cond_eq_ite] at hs
  repeat' (split at hs)
  all_goals first
    | (cases hs; done)
    | exact mo_nx hs
    | (cases hs; intro p l s h1 e; cases e; exact ⟨by simp, by simp⟩)
theorem mo_newq {t : Nat} (hs : mnewq t pc lv st h = some o) : Mo h o := by
  unfold mnewq at hs
  try simp only [cond_eq_ite] at hs
  repeat' (split at hs)
  all_goals first
    | (cases hs; done)
    | exact mo_nx hs
    | (cases hs; intro p l s h1 e; cases e; exact ⟨by simp, by simp⟩)
theorem mo_ald {t : Nat} {scr : Option (Nat × (Nat → Int32))} (hs : mald t pc scr lv st h = some o) : Mo h o := by
  unfold mald at hs
  try simp only [cond_eq_ite] at hs
  repeat' (split at hs)
  all_goals first
    | (cases hs; done)
    | exact mo_nx hs
    | (cases hs; intro p l s h1 e; cases e; exact ⟨by simp, by simp⟩)
theorem mo_ast {t : Nat} (hs : mast t pc lv st h = some o) : Mo h o := by
  unfold mast at hs
  try simp only [cond_eq_ite] at hs
  repeat' (split at hs)
  all_goals first
    | (cases hs; done)
    | exact mo_nx hs
    | (cases hs; intro p l s h1 e; cases e; exact ⟨by simp, by simp⟩)
theorem mo_aldq  (hs : maldq pc lv st h = some o) : Mo h o := by
  unfold maldq at hs
  try simp only [cond_eq_ite] at hs
  repeat' (split at hs)
  all_goals first
    | (cases hs; done)
    | exact mo_nx hs
    | (cases hs; intro p l s h1 e; cases e; exact ⟨by simp, by simp⟩)
theorem mo_astq  (hs : mastq pc lv st h = some o) : Mo h o := by
  unfold mastq at hs
  try simp only [cond_eq_ite] at hs
  repeat' (split at hs)
  all_goals first
    | (cases hs; done)
    | exact mo_nx hs
    | (cases hs; intro p l s h1 e; cases e; exact ⟨by simp, by simp⟩)
theorem mo_alen {scr : Option (Nat × (Nat → Int32))} (hs : malen pc scr lv st h = some o) : Mo h o := by
  unfold malen at hs
  try simp only [cond_eq_ite] at hs
  repeat' (split at hs)
  all_goals first
    | (cases hs; done)
    | exact mo_nx hs
    | (cases hs; intro p l s h1 e; cases e; exact ⟨by simp, by simp⟩)
theorem mo_cpy  (hs : mcpy pc lv st h = some o) : Mo h o := by
  unfold mcpy at hs
  try simp only [cond_eq_ite] at hs
  repeat' (split at hs)
  all_goals first
    | (cases hs; done)
    | exact mo_nx hs
    | (cases hs; intro p l s h1 e; cases e; exact ⟨by simp, by simp⟩)
theorem mo_sw {off : Int} (hs : msw pc off lv st h = some o) : Mo h o := by
  unfold msw at hs
  try simp only [cond_eq_ite] at hs
  repeat' (split at hs)
  all_goals first
    | (cases hs; done)
    | exact mo_nx hs
    | (cases hs; intro p l s h1 e; cases e; exact ⟨by simp, by simp⟩)
theorem mo_gets {k : Nat} (hs : mgets k pc lv st h = some o) : Mo h o := by
  unfold mgets at hs
  simp only [cond_eq_ite] at hs
  repeat' (split at hs)
  all_goals first
    | (cases hs; done)
    | exact mo_nx hs
theorem mo_bld (hs : mbld pc lv st h = some o) : Mo h o := by
  unfold mbld at hs
  repeat' (split at hs)
  all_goals first
    | (cases hs; done)
    | exact mo_nx hs
    | exact mo_ald (scr := none) hs
theorem mo_spec {a : Nat} (hs : mspec a pc lv st h = some o) : Mo h o := by
  unfold mspec at hs
  simp only [cond_eq_ite] at hs
  repeat' (split at hs)
  all_goals first
    | (cases hs; done)
    | exact mo_nx hs
    | exact mo_cpy hs
theorem mo_inv {kind y b c' : Nat} (hs : minv kind y b c' st h = some o) : Mo h o := by
  obtain ⟨q, rfl⟩ := minv_call hs
  intro p l s h1 e
  cases e
set_option maxHeartbeats 4000000 in
set_option maxRecDepth 100000 in
theorem mstep_mono {x : mI} {nL : Nat} {scr : Option (Nat × (Nat → Int32))} (hs : mstep scr nL pc lv st h x = some o) : Mo h o := by
  obtain ⟨i, len, a, b, c3, d⟩ := x
  cases i with
  | aconst_null => exact mo_nx hs
  | aload i => exact mo_ld hs
  | aload_n i => exact mo_ld hs
  | iload i => exact mo_ld hs
  | iload_n i => exact mo_ld hs
  | astore i => exact mo_st hs
  | astore_n i => exact mo_st hs
  | istore i => exact mo_st hs
  | istore_n i => exact mo_st hs
  | iconst n => exact mo_nx hs
  | bipush n => exact mo_nx hs
  | sipush n => exact mo_nx hs
  | ldc idx =>
    simp only [mstep, cond_eq_ite] at hs
    split at hs <;> exact mo_nx hs
  | iadd => exact mo_bin hs
  | isub => exact mo_bin hs
  | imul => exact mo_bin hs
  | iand => exact mo_bin hs
  | ior => exact mo_bin hs
  | ixor => exact mo_bin hs
  | ishl => exact mo_bin hs
  | ishr => exact mo_bin hs
  | iushr => exact mo_bin hs
  | idiv => exact mo_div hs
  | irem => exact mo_div hs
  | ineg => exact mo_un hs
  | i2c => exact mo_un hs
  | iinc i n =>
    simp only [mstep, cond_eq_ite] at hs
    repeat' (split at hs)
    all_goals first | exact mo_nx hs | (cases hs; done)
  | dup =>
    simp only [mstep, cond_eq_ite] at hs
    repeat' (split at hs)
    all_goals first | exact mo_nx hs | (cases hs; done)
  | dup2 =>
    simp only [mstep, cond_eq_ite] at hs
    repeat' (split at hs)
    all_goals first | exact mo_nx hs | (cases hs; done)
  | pop =>
    simp only [mstep, cond_eq_ite] at hs
    repeat' (split at hs)
    all_goals first | exact mo_nx hs | (cases hs; done)
  | goto off => exact mo_nx hs
  | ifCond cd off => cases cd <;> exact mo_if hs
  | if_icmp cd off => cases cd <;> exact mo_if2 hs
  | if_acmp cd off => cases cd <;> exact mo_ifa hs
  | ifnull off => exact mo_ifn hs
  | ifnonnull off => exact mo_ifn hs
  | tableswitch df lo hi os =>
    simp only [mstep] at hs
    repeat' (split at hs)
    all_goals first | exact mo_sw hs | (cases hs; done)
  | lookupswitch df ps =>
    simp only [mstep] at hs
    repeat' (split at hs)
    all_goals first | exact mo_sw hs | (cases hs; done)
  | getfield idx =>
    simp only [mstep, cond_eq_ite] at hs
    split at hs
    · exact mo_gets hs
    · exact mo_getf hs
  | getstatic idx => exact mo_nx hs
  | i2b => exact mo_un hs
  | putfield idx => exact mo_putf hs
  | new idx => exact mo_new hs
  | newarray ty => exact mo_newa hs
  | anewarray idx => exact mo_newq hs
  | arraylength => exact mo_alen hs
  | iaload => exact mo_ald hs
  | baload => exact mo_bld hs
  | iastore => exact mo_ast hs
  | bastore => exact mo_ast hs
  | aaload => exact mo_aldq hs
  | aastore => exact mo_astq hs
  | invokevirtual idx =>
    simp only [mstep, cond_eq_ite] at hs
    split at hs
    · exact mo_spec hs
    · exact mo_inv hs
  | invokespecial idx =>
    simp only [mstep, cond_eq_ite] at hs
    split at hs
    · exact mo_spec hs
    · exact mo_inv hs
  | invokestatic idx =>
    simp only [mstep, cond_eq_ite] at hs
    split at hs
    · exact mo_spec hs
    · exact mo_inv hs
  | ireturn =>
    simp only [mstep] at hs
    split at hs
    · cases hs; intro p l s h1 e; cases e
    · cases hs
  | areturn =>
    simp only [mstep, cond_eq_ite] at hs
    repeat' (split at hs)
    all_goals first | (cases hs; done) | (cases hs; intro p l s h1 e; cases e; done)
  | return_ =>
    simp only [mstep] at hs
    split at hs
    · cases hs; intro p l s h1 e; cases e
    · cases hs
  | _ => exact nomatch (show (none : Option mO) = some o from hs)
end MO
