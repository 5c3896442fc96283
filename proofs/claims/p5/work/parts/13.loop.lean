/-- the method ends with the value that its head says -/
def mretok : Option FieldType → Option Value → Bool
  | none, none => true
  | some .int, some (.int _) => true
  | some .boolean, some (.int x) => x == 0 || x == 1
  | some .byte, some (.int x) => x == 0 || x == 1
  | some (.object _), some (.ref _) => true
  | some (.object _), some .null => true
  | _, _ => false
def mcall : Nat → Nat → List Value → mS → Option (Option Value × mS)
  | 0, _, _, _ => none
  | d + 1, y, as, h => match mmOf y with
    | none => none
    | some M => bif Nat.ble as.length M.2.2.1 && as.all mone then (match mloop (mcall d) none M.2.2.1 (mgd M.2.2.2.2.2.2.2 M.2.2.2.2.1) mfuel 0 (lv_args 0 as) [] h with
      | some (r, h') => bif mretok M.2.2.2.1 r then some (r, h') else none
      | none => none) else none
def mMono (cal : Nat → List Value → mS → Option (Option Value × mS)) : Prop := ∀ (y : Nat) (as : List Value) (h : mS) (r : Option Value) (h' : mS), cal y as h = some (r, h') → h.1.length ≤ h'.1.length ∧ h.2 ≤ h'.2
theorem mloop_mono {cal : Nat → List Value → mS → Option (Option Value × mS)} (hc : mMono cal) {scr : Option (Nat × (Nat → Int32))} {nL : Nat} {tab : Nat → Option mI} : ∀ (n pc : Nat) (lv : mL) (st : List Value) (h : mS) (r : Option Value) (h' : mS), mloop cal scr nL tab n pc lv st h = some (r, h') → h.1.length ≤ h'.1.length ∧ h.2 ≤ h'.2 := by
  intro n
  induction n with
  | zero => intro pc lv st h r h' hs; cases hs
  | succ n ih =>
    intro pc lv st h r h' hs
    unfold mloop at hs
    split at hs
    · cases hs
    · split at hs
      · cases hs
      · rename_i pc' lv' st' h1 hst
        have h1 := mstep_mono hst _ _ _ _ rfl
        have h2 := ih _ _ _ _ _ _ hs
        exact ⟨Nat.le_trans h1.1 h2.1, Nat.le_trans h1.2 h2.2⟩
      · cases hs
        exact ⟨Nat.le_refl _, Nat.le_refl _⟩
      · split at hs
        · cases hs
        · rename_i r1 h1 hcal
          have h1 := hc _ _ _ _ _ hcal
          have h2 := ih _ _ _ _ _ _ hs
          exact ⟨Nat.le_trans h1.1 h2.1, Nat.le_trans h1.2 h2.2⟩
theorem mcall_mono : ∀ d, mMono (mcall d) := by
  intro d
  induction d with
  | zero => intro y as h r h' hs; cases hs
  | succ d ih =>
    intro y as h r h' hs
    unfold mcall at hs
    simp only [cond_eq_ite] at hs
    repeat' (split at hs)
    all_goals first
      | (cases hs; done)
      | skip
    rename_i hl _
    cases hs
    exact mloop_mono ih _ _ _ _ _ _ _ hl
/-- what the tables say of a method -/
def mMok (y : Nat) (M : mM) : Prop := Cond.code M.1 M.2.1 M.2.2.1 M.2.2.2.1 ∈ mTB ∧ Cond.initialized M.1.cls ∈ mTB ∧ (mkind y = 1 → Cond.static M.1 ∈ mTB) ∧ (mkind y = 0 → Cond.instanceMethod M.1 ∈ mTB ∧ (M.1.name = "<init>" ∨ Cond.selects M.1.cls M.1 M.1 ∈ mTB)) ∧ plainName M.1.cls = true ∧
  (M.1.cls ≠ "java/lang/invoke/MethodHandle" ∧ M.1.cls ≠ "java/lang/invoke/VarHandle" ∧ (parseMethodDescriptor M.1.desc).map (fun d => d.parameters.length) = some M.2.2.2.2.2.2.1) ∧ M.2.2.1 ≤ 41 ∧ ((M.2.2.2.2.2.1 = 50 → M.1.cls = "java/lang/String") ∧ (M.2.2.2.2.2.1 < 50 → (mcl[M.2.2.2.2.2.1]?).map (fun q => q.1) = some M.1.cls)) ∧ (M.1.name = "<init>" → M.2.2.2.1 = none) ∧
  ∀ (pc : Nat) (x : mI), mgd M.2.2.2.2.2.2.2 M.2.2.2.2.1 pc = some x → decode M.2.1 pc = .ok (x.1, x.2.1) ∧ mok M.1.cls M.1.name pc x = true
theorem mchk1_ok {y : Nat} {M : mM} (h : mchk1 y = true) (hM : mmOf y = some M) : mMok y M := by
  unfold mchk1 at h
  rw [hM] at h
  split at h
  · rename_i M' q hM' hq
    cases hM'
    obtain ⟨h1, h⟩ := mand h
    obtain ⟨h2, h⟩ := mand h
    obtain ⟨h3, h⟩ := mand h
    obtain ⟨h4, h⟩ := mand h
    obtain ⟨h5, h⟩ := mand h
    obtain ⟨h6, h⟩ := mand h
    obtain ⟨h7, h⟩ := mand h
    obtain ⟨h9, h8⟩ := mand h
    refine ⟨mIn_mem h1, mIn_mem h2, fun hk => ?_, fun hk => ?_, h4, of_decide_eq_true h5, Nat.le_of_ble_eq_true h6, ?_, fun hk => ?_, fun pc x hx => mchkT_at h8 hx⟩
    · rw [hk] at h3
      exact mIn_mem h3
    · rw [hk] at h3
      obtain ⟨h9, h10⟩ := mand h3
      rw [Bool.or_eq_true] at h10
      exact ⟨mIn_mem h9, h10.imp of_decide_eq_true mIn_mem⟩
    · rw [Bool.or_eq_true, Bool.or_eq_true] at h7
      refine ⟨fun e => ?_, fun e => ?_⟩
      · rcases h7 with h7 | h7 | h7
        · have := mlen h7; omega
        · exact of_decide_eq_true (mand h7).2
        · have := Nat.blt_eq.mp (mand h7).1; omega
      · rcases h7 with h7 | h7 | h7
        · have := mlen h7; omega
        · have := mlen (mand h7).1; omega
        · exact of_decide_eq_true (mand h7).2
    · rw [hk] at h9
      simpa using h9
  · cases h
def mws (M : mM) : List Cond := Cond.code M.1 M.2.1 M.2.2.1 M.2.2.2.1 :: mTB
theorem mTB_good : ∀ w ∈ mTB, goodWord w = true := fun w hw => (List.mem_filter.mp hw).2
theorem mws_good {M : mM} (h : Cond.code M.1 M.2.1 M.2.2.1 M.2.2.2.1 ∈ mTB) : GoodIn mTB (mws M) := by
  intro w hw
  have hm : w ∈ mTB := by
    rcases List.mem_cons.mp hw with rfl | hw
    · exact h
    · exact hw
  exact ⟨hm, good_of_word (mTB_good w hm)⟩
def mroom (d mc ms : Nat) : Room := { frames := d + 6, cells := mc, slots := ms, locals := 60 * d + 300 }
def mJ (z : mZ) (ca : Nat → ClassId) (D : va_G) (h : mS) (U : State) : Prop := mP z ca D h.1 U.heap ∧ mG z ca D U
def mQ (z : mZ) (ca : Nat → ClassId) (D : va_G) (r : Option Value) (h' : mS) : Array Value → State → Outcome → State → Prop := fun _ st oc t => oc = .returned (r.map (sv z)) ∧ mP z ca D h'.1 t.heap ∧ ∀ q : Nat, q < z.1 → t.heap[q]? = st.heap[q]?
/-- a method's contract out of its pure run -/
def mMet (l : Launch) (z : mZ) (ca : Nat → ClassId) (D : va_G) (d : Nat) (M : mM) (as : List Value) (h : mS) (r : Option Value) (h' : mS) : Prop := Met l M.1 (mws M) (mroom d (h'.1.length - h.1.length) (h'.2 - h.2)) (va_Pc (as.map (sv z)) (mJ z ca D h)) (mQ z ca D r h') (h'.1.length - h.1.length) (h'.2 - h.2) (fun q => z.1 ≤ q)
def mCal (l : Launch) (z : mZ) (ca : Nat → ClassId) (D : va_G) (d : Nat) (cal : Nat → List Value → mS → Option (Option Value × mS)) : Prop := mMono cal ∧ ∀ (y : Nat) (as : List Value) (h : mS) (r : Option Value) (h' : mS), cal y as h = some (r, h') → ∃ M, mmOf y = some M ∧ mMet l z ca D d M as h r h'
theorem mJ_blind (z : mZ) (ca : Nat → ClassId) (D : va_G) (h : mS) (av : List Value) : FrameBlind (va_Pc av (mJ z ca D h)) := fun a U g mk q => ⟨q.1, q.2.1, mG.calling g mk a q.2.2⟩
theorem minv_inv {kind y b c' y' : Nat} {st as rest : List Value} {h : mS} (hs : minv kind y b c' st h = some (.inr (.inr (y', as, rest)))) : y' = y ∧ b ≤ st.length ∧ rest.length ≤ 8 ∧ rest.all mone = true ∧ ((kind < 2 ∧ ∃ (k : Nat) (o1 : Nat × List Value), st = st.take b ++ .ref k :: rest ∧ as = .ref k :: (st.take b).reverse ∧ h.1[k]? = some (.inr o1) ∧ o1.1 = c') ∨ (¬ kind < 2 ∧ st = st.take b ++ rest ∧ as = (st.take b).reverse) ∨ (kind < 2 ∧ st = st.take b ++ .retAddr 0 :: rest ∧ as = .retAddr 0 :: (st.take b).reverse ∧ c' = 50)) := by
  unfold minv at hs
  cases hk : Nat.blt kind 2 with
  | true =>
    simp only [hk, cond_true] at hs
    split at hs
    · rename_i k r hdr
      split at hs
      · rename_i o1 ho
        cases hc : (Nat.beq o1.1 c' && (Nat.ble b st.length && (Nat.ble r.length 8 && (r.all mone && (st.take b).all mone)))) with
        | false => simp only [hc, cond_false] at hs; cases hs
        | true =>
          simp only [hc, cond_true] at hs
          cases hs
          obtain ⟨h1, hc⟩ := mand hc
          obtain ⟨h2, hc⟩ := mand hc
          obtain ⟨h3, hc⟩ := mand hc
          obtain ⟨h4, h5⟩ := mand hc
          exact ⟨rfl, Nat.le_of_ble_eq_true h2, Nat.le_of_ble_eq_true h3, h4, Or.inl ⟨Nat.blt_eq.mp hk, k, o1, by rw [← hdr, List.take_append_drop], rfl, ho, mlen h1⟩⟩
      · cases hs
    · rename_i r hdr
      cases hc : (Nat.beq c' 50 && (Nat.ble b st.length && (Nat.ble r.length 8 && (r.all mone && (st.take b).all mone)))) with
      | false => simp only [hc, cond_false] at hs; cases hs
      | true =>
        simp only [hc, cond_true] at hs
        cases hs
        obtain ⟨h1, hc⟩ := mand hc
        obtain ⟨h2, hc⟩ := mand hc
        obtain ⟨h3, hc⟩ := mand hc
        obtain ⟨h4, h5⟩ := mand hc
        exact ⟨rfl, Nat.le_of_ble_eq_true h2, Nat.le_of_ble_eq_true h3, h4, Or.inr (Or.inr ⟨Nat.blt_eq.mp hk, by rw [← hdr, List.take_append_drop], rfl, mlen h1⟩)⟩
    · cases hs
  | false =>
    simp only [hk, cond_false] at hs
    cases hc : (Nat.ble b st.length && (Nat.ble (st.drop b).length 8 && ((st.drop b).all mone && (st.take b).all mone))) with
    | false => simp only [hc, cond_false] at hs; cases hs
    | true =>
      simp only [hc, cond_true] at hs
      cases hs
      obtain ⟨h2, hc⟩ := mand hc
      obtain ⟨h3, hc⟩ := mand hc
      obtain ⟨h4, h5⟩ := mand hc
      exact ⟨rfl, Nat.le_of_ble_eq_true h2, Nat.le_of_ble_eq_true h3, h4, Or.inr (Or.inl ⟨(fun q => by rw [Nat.blt_eq.mpr q] at hk; cases hk), (by rw [List.take_append_drop]), rfl⟩)⟩
section MV
variable {p : Program} {l : Launch} {e : Env} {R : Room} {s : State} {m : MethodId} {args : Array Value} {below : List Frame} {meth : Method} {c : Code} {H : Heap} {locs : List Loc} {cells slots : Nat} {Q : State → Prop}
variable {cc : ByteArray} {pc : Nat} {ls : Array Slot} {z : mZ} {ca : Nat → ClassId} {D : va_G} {nL L0 S0 : Nat} {lv : mL} {st : List Value} {h : mS}
/-- behind a call's run -/
theorem mk_back {g : JFrame} {rest as : List Value} {r : Option Value} {h' : mS} (hA : mAt z ca D s.heap nL L0 S0 lv h H locs ls cells slots) (hm : h.1.length ≤ h'.1.length ∧ h.2 ≤ h'.2) (hz0 : z.1 ≤ s.heap.size)
    (hr : va_Run p l e R s m args below meth c H locs cells slots (h'.1.length - h.1.length) (h'.2 - h.2) g (rest.map (sv z)) (mQ z ca D r h' as.toArray) (fun q => z.1 ≤ q)) (hg : { g with pc := g.pc + 3, stack := (r.map (sv z)).toList ++ rest.map (sv z) } = F0 m (pc + 3) ls ((r.toList ++ rest).map (sv z)))
    (kk : ∀ (H' : Heap) (locs' : List Loc) (cells' slots' : Nat), mAt z ca D s.heap nL L0 S0 lv h' H' locs' ls cells' slots' → W p l e R s m args below meth c H' locs' cells' slots' Q (F0 m (pc + 3) ls ((r.toList ++ rest).map (sv z)))) : W p l e R s m args below meth c H locs cells slots Q g := by
  intro T hT X
  obtain ⟨v, st₀, t, T', L, h0, X', hL, e1, e2, ⟨hv, hp, hk⟩, stp⟩ := hr T hT X
  cases hv
  rw [hg] at stp
  rw [h0] at hk
  have hsz : H.size ≤ T'.heap.size := by rw [e1, hp.1, hA.1.1]; omega
  obtain ⟨t2, a1, b1⟩ := kk T'.heap (locs ++ L) (cells + (h'.1.length - h.1.length)) (slots + (h'.2 - h.2)) ⟨by rw [e1]; exact hp, ⟨Nat.le_trans hA.2.1.1 hsz, fun q h1 h2 => by
      rw [e1, hk q (Nat.not_le.mp h2)]; exact hA.2.1.2.1 q h1 h2, fun q hq => by
      rcases List.mem_append.mp hq with h | h
      · exact hA.2.1.2.2 q h
      · exact hL q h⟩, hA.2.2.1, by have := hA.2.2.2.1; omega, by have := hA.2.2.2.2; omega⟩ T' rfl X'
  exact ⟨t2, stp t2 a1, b1⟩
theorem mk_pre {own name : String} {as : List Value} (hC : mCx p R s m args meth c z ca D cc nL own name) (hA : mAt z ca D s.heap nL L0 S0 lv h H locs ls cells slots) : ∀ U : State, U.heap = H → s.WarmedH U.vm → va_Pc (as.map (sv z)) (mJ z ca D h) (as.map (sv z)).toArray U := by
  intro U hU hW
  exact ⟨rfl, by rw [hU]; exact hA.1, mG.moved hW (fun a h1 h2 => by rw [hU]; exact hA.2.1.2.1 a h1 h2) hC.2.2.2.2.2.1⟩
end MV
