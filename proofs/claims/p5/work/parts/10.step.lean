/-- what every state of the run knows of the launch: classes and their slots, the nest mates' links, the classes of the arrays, the one String constant -/
def mStr (z : mZ) (U : State) : Prop := vk_R "OpenFields$Reader" 75 "wyfscgdbnh" z.2.1 U ∧ vk_S 1 [10] [[119, 121, 102, 115, 99, 103, 100, 98, 110, 104]] (fun _ => z.2.1) (fun _ => z.2.2.2) (fun q => z.1 ≤ q) U U.heap ∧ va_Z "java/lang/String" "COMPACT_STRINGS" "Z" (.int 1) (fun q => z.1 ≤ q) U U.heap
def mArr : List String := ["OpenFields$House", "OpenFields$Strip", "OpenFields$Field", "OpenFields$ByLaw"]
def mG (z : mZ) (ca : Nat → ClassId) (D : va_G) (U : State) : Prop := va_K D mcl (mtys ca) U ∧ (∀ q ∈ mNest, va_Nw (.methodLinkNest q.1 q.2.1 q.2.2 "OpenFields") U) ∧ (∀ C ∈ mArr, va_AO C U) ∧ mStr z U
theorem mG.moved {z : mZ} {ca : Nat → ClassId} {D : va_G} {s U : State} (hW : s.WarmedH U.vm) (hq : ∀ a : Nat, a < s.heap.size → ¬ z.1 ≤ a → U.heap[a]? = s.heap[a]?) (h : mG z ca D s) : mG z ca D U :=
  ⟨va_K.moved hW.alike h.1, fun q hm => va_Nw.warmM hW (h.2.1 q hm), fun C hC => va_AO.moved hW.alike (h.2.2.1 C hC), vk_R.warm hW h.2.2.2.1, (vk_S.moved hW.alike h.2.2.2.2.1).kept hq, (va_Z.moved hW.alike h.2.2.2.2.2).kept hq⟩
theorem mG.calling {z : mZ} {ca : Nat → ClassId} {D : va_G} {U : State} (g : JFrame) (mk : MethodId) (a : Array Value) (h : mG z ca D U) : mG z ca D (U.calling g mk a) :=
  ⟨va_K.moved (u := U) (U := U.calling g mk a) (Vm.Alike.refl U.vm) h.1, fun q hm => va_Nw.same rfl rfl (h.2.1 q hm), fun C hC => va_AO.moved (u := U) (U := U.calling g mk a) (Vm.Alike.refl U.vm) (h.2.2.1 C hC), vk_R.same rfl h.2.2.2.1, vk_S.moved (u := U) (U := U.calling g mk a) (Vm.Alike.refl U.vm) h.2.2.2.2.1, va_Z.moved (u := U) (U := U.calling g mk a) (Vm.Alike.refl U.vm) h.2.2.2.2.2⟩
theorem msv_ref (z : mZ) {v : Value} (h : misref v = true) : sv z v = .null ∨ ∃ a, sv z v = .ref a := by
  cases v with
  | ref k => exact Or.inr ⟨_, rfl⟩
  | null => exact Or.inl rfl
  | retAddr n => rcases n with _ | _ | n <;> exact Or.inr ⟨_, rfl⟩
  | _ => cases h
theorem msv_int (z : mZ) {v : Value} (h : misint v = true) : ∃ x, v = .int x := by
  cases v with
  | int x => exact ⟨x, rfl⟩
  | _ => cases h
theorem mone_cat (z : mZ) {v : Value} (h : mone v = true) : (sv z v).category = 1 := by
  rw [sv_cat]
  cases v with
  | int x => rfl
  | ref x => rfl
  | null => rfl
  | retAddr n => rfl
  | _ => cases h
section MT
variable {p : Program} {l : Launch} {e : Env} {R : Room} {s : State} {m : MethodId} {args : Array Value} {below : List Frame} {meth : Method} {c : Code} {H : Heap} {locs : List Loc} {cells slots : Nat} {Q : State → Prop}
variable {cc : ByteArray} {pc : Nat} {ls : Array Slot} {z : mZ} {ca : Nat → ClassId} {D : va_G} {H0 : Heap} {nL L0 S0 : Nat} {lv : mL} {st : List Value} {h : mS} {o : mO}
/-- what a method's frame knows -/
def mCx (p : Program) (R : Room) (s : State) (m : MethodId) (args : Array Value) (meth : Method) (c : Code) (z : mZ) (ca : Nat → ClassId) (D : va_G) (cc : ByteArray) (nL : Nat) (own name : String) : Prop :=
  p.tables.exec = Jvm.exec ∧ c.code = cc ∧ c.maxLocals = nL ∧ (∀ w ∈ mTB, w.before args s = true) ∧ s.vm.findClass own = some m.cls ∧ mG z ca D s ∧ (name = "<init>" → meth.name = "<init>") ∧ 6 ≤ R.frames ∧ 300 ≤ R.locals ∧ z.1 ≤ s.heap.size
theorem msum8 {r : List Value} (h : r.length ≤ 8) (h1 : r.all mone = true) : ((r.map (sv z)).map fun v => v.category).sum ≤ 8 := by
  have : ∀ (r : List Value), r.all mone = true → ((r.map (sv z)).map fun v => v.category).sum = r.length := by
    intro r
    induction r with
    | nil => intro _; rfl
    | cons a t ih =>
      intro hh
      rw [List.all_cons, Bool.and_eq_true] at hh
      rw [List.map_cons, List.map_cons, List.sum_cons, ih hh.2, mone_cat z hh.1, List.length_cons]
      omega
  rw [this r h1]
  exact h
theorem mk_cpyW {own : String} {index a0 a n0 n1 : Nat} {f g : Nat → Int32} {rest : List Value} (hx : p.tables.exec = Jvm.exec) (hb : c.code = cc) (hml : c.maxLocals = ls.size) (hts : ∀ w ∈ mTB, w.before args s = true) (hown : s.vm.findClass own = some m.cls) (hlink : (Cond.methodLink own index arraycopyName).before args s = true) (hK : va_K D mcl (mtys ca) s)
    (hc0 : H[a0]? = some (vp_cell (ca 0) (n0, .inl f))) (hc1 : H[a]? = some (vp_cell (ca 0) (n1, .inl g)))
    {sp dp n : Int32} (h1 : ¬ sp < 0) (h2 : ¬ dp < 0) (h3 : ¬ n < 0) (h4 : sp.toNatClampNeg + n.toNatClampNeg ≤ n0) (h5 : dp.toNatClampNeg + n.toNatClampNeg ≤ n1)
    (hframes : 1 ≤ R.frames) (hlocals : (rest.map fun v => v.category).sum + (nativeFrameWords "java/lang/System" "arraycopy" 5 + 11) ≤ R.locals) (hdg : decode cc pc = .ok (.invokestatic index, 3))
    (kk : ∀ (H1 : Heap) (L : List Loc), H1[a]? = some (vp_cell (ca 0) (n1, .inl (va_cpy f g sp.toNatClampNeg dp.toNatClampNeg n.toNatClampNeg))) → H1.size = H.size → (∀ q : Nat, q ≠ a → H1[q]? = H[q]?) → (∀ q ∈ L, q.base = a) → W p l e R s m args below meth c H1 (locs ++ L) cells slots Q (F0 m (pc + 3) ls rest)) : W p l e R s m args below meth c H locs cells slots Q (F0 m pc ls (.int n :: .int dp :: .ref a :: .int sp :: .ref a0 :: rest)) := by
  have nn : ∀ z : Int32, ¬ z < 0 → z.toInt = (z.toNatClampNeg : Int) := by
    intro z hz
    have hz0 : (0 : Int) ≤ z.toInt := by
      have := Int32.not_lt.mp hz
      simpa using Int32.le_iff_toInt_le.mp this
    show z.toInt = ((z.toInt.toNat : Nat) : Int)
    omega
  intro T hT X
  obtain ⟨-, k0, hk0, cm0, hkk0⟩ := (hK.2 0 _ rfl).1 n0 (fun j => .int (f j))
  obtain ⟨-, k1, hk1, cm1, hkk1⟩ := (hK.2 0 _ rfl).1 n1 (fun j => .int (g j))
  obtain ⟨vm', X', step⟩ := X.arraycopy hx hown hlink (hts _ mf_ac_n) (hts _ mf_ac_s) (hts _ mf_sys) (src := a0) (dst := a) (cs := vp_cell (ca 0) (n0, .inl f)) (cd := vp_cell (ca 0) (n1, .inl g)) (srcPos := sp) (destPos := dp) (n := n) (by rw [hT]; exact hc0) (by rw [hT]; exact hc1)
    (fun _ h => by cases h) (fun _ h => by cases h) (fun h => by cases h) (fun h => by cases h) hk0 hk1 hkk0 hkk1 (by simp [refKind]) h1 h2 h3
    (by rw [nn sp h1, nn n h3]; show ¬ _ > ((arrV (ca 0) n0 (fun j => .int (f j))).slots.size : Int); rw [arrV_size]; omega)
    (by rw [nn dp h2, nn n h3]; show ¬ _ > ((arrV (ca 0) n1 (fun j => .int (g j))).slots.size : Int); rw [arrV_size]; omega)
    (fun vm₁ _ i hi => by
      have e : (vp_cell (ca 0) (n0, .inl f)).slots.getD (sp.toNatClampNeg + i) .null = .int (f (sp.toNatClampNeg + i)) := by
        show (arrV (ca 0) n0 (fun j => .int (f j))).slots.getD _ _ = _
        rw [Array.getD_eq_getD_getElem?, arrV_read _ _ (by omega)]
        rfl
      refine ⟨?_, ?_⟩
      · rw [e]
        rfl
      · rw [e]
        exact trivial)
    (g := F0 m pc ls (.int n :: .int dp :: .ref a :: .int sp :: .ref a0 :: rest)) rfl (by rw [hml]) (rest := rest) rfl (by rw [hb]; exact hdg) hframes (by show 2 * 0 + _ + _ ≤ _; omega)
  have e1 : copied (vp_cell (ca 0) (n0, .inl f)) (vp_cell (ca 0) (n1, .inl g)) sp dp n = vp_cell (ca 0) (n1, .inl (va_cpy f g sp.toNatClampNeg dp.toNatClampNeg n.toNatClampNeg)) := va_copied (fun z => .int z) (ca 0) (ca 0) f g h4
  rw [e1] at X' step
  have hl : a < H.size := (Array.getElem?_eq_some_iff.mp hc1).1
  have hheap : ((T.setVm vm').setCell a (vp_cell (ca 0) (n1, .inl (va_cpy f g sp.toNatClampNeg dp.toNatClampNeg n.toNatClampNeg)))).heap = H.setIfInBounds a (vp_cell (ca 0) (n1, .inl (va_cpy f g sp.toNatClampNeg dp.toNatClampNeg n.toNatClampNeg))) := by rw [← hT]; rfl
  obtain ⟨t, a1, b1⟩ := kk _ _ (by simp [Array.getElem?_setIfInBounds, hl]) (by simp) (fun q hq => by simp [Array.getElem?_setIfInBounds, Ne.symm hq]) (fun q hq => by
      obtain ⟨z, -, hz⟩ := List.mem_map.mp hq
      rw [← hz]) _ hheap X'
  exact ⟨t, step t a1, b1⟩
theorem mk_cpy {own name : String} {index : Nat} (hs : mcpy pc lv st h = some o) (kn : mNext p l e R s m args below meth c Q z ca D H0 nL L0 S0 o) (hA : mAt z ca D H0 nL L0 S0 lv h H locs ls cells slots) (hC : mCx p R s m args meth c z ca D cc nL own name)
    (hlink : (Cond.methodLink own index arraycopyName).before args s = true) (hdg : decode cc pc = .ok (.invokestatic index, 3)) : W p l e R s m args below meth c H locs cells slots Q (F0 m pc ls (st.map (sv z))) := by
  obtain ⟨hx, hb, hml, hts, hown, hG, hnm, hfr, hlo, hz0⟩ := hC
  unfold mcpy at hs
  split at hs
  · rename_i n dp b sp a r
    split at hs
    · rename_i xs ys ha hb1
      split at hs
      · cases hs
      · rename_i hn
        have hr8 : r.length ≤ 8 := Nat.not_lt.mp fun q => hn (Or.inr (Or.inr (Or.inr (Or.inr (Or.inl q)))))
        have hrm : r.all mone = true := by
          cases hh : r.all mone with
          | true => rfl
          | false => exact absurd (Or.inr (Or.inr (Or.inr (Or.inr (Or.inr hh))))) hn
        have h8 := msum8 (z := z) hr8 hrm
        refine mk_cpyW (rest := r.map (sv z)) hx hb (by rw [hml]; exact hA.2.2.1.1.symm) hts hown hlink hG.1 (hA.1.2 a _ ha) (hA.1.2 b _ hb1) (fun q => hn (Or.inl (Or.inr (Or.inr q)))) (fun q => hn (Or.inl (Or.inr (Or.inl q)))) (fun q => hn (Or.inl (Or.inl q))) (Nat.not_lt.mp fun q => hn (Or.inr (Or.inl q))) (Nat.not_lt.mp fun q => hn (Or.inr (Or.inr (Or.inl q)))) (by omega) (by
          have : nativeFrameWords "java/lang/System" "arraycopy" 5 = 7 := by decide
          omega) hdg (fun H1 L e1 e2 e3 e4 => ?_)
        have e1' : va_at D mcl (z.1 + b, se z ca (.inl (0, .inl (mcpyL xs ys sp.toNatClampNeg dp.toNatClampNeg n.toNatClampNeg)))) H1 := by
          show H1[z.1 + b]? = some (vp_cell (ca 0) ((mcpyL xs ys sp.toNatClampNeg dp.toNatClampNeg n.toNatClampNeg).length, .inl (fun j => (mcpyL xs ys sp.toNatClampNeg dp.toNatClampNeg n.toNatClampNeg).getD j 0)))
          have hln : (mcpyL xs ys sp.toNatClampNeg dp.toNatClampNeg n.toNatClampNeg).length = ys.length := by unfold mcpyL; rw [List.length_map, List.length_range]
          have hd5 : ¬ ys.length < dp.toNatClampNeg + n.toNatClampNeg := fun q => hn (Or.inr (Or.inr (Or.inl q)))
          have hf : (fun j => (mcpyL xs ys sp.toNatClampNeg dp.toNatClampNeg n.toNatClampNeg).getD j 0) = va_cpy (fun j => xs.getD j 0) (fun j => ys.getD j 0) sp.toNatClampNeg dp.toNatClampNeg n.toNatClampNeg := by
            funext j
            unfold mcpyL va_cpy
            rw [List.getD_eq_getElem?_getD, List.getElem?_map]
            by_cases hj : j < ys.length
            · rw [List.getElem?_range hj]; rfl
            · rw [List.getElem?_eq_none (by rw [List.length_range]; omega)]
              rw [if_neg (by omega)]
              show (0 : Int32) = ys.getD j 0
              rw [List.getD_eq_getElem?_getD, List.getElem?_eq_none (by omega)]
              rfl
          rw [hln, hf]
          exact e1
        refine mk_nx hs kn ⟨hA.1.set e1' e2 e3, ⟨by rw [e2]; exact hA.2.1.1, fun q g1 g2 => ?_, fun q hq => ?_⟩, hA.2.2.1, by rw [List.length_set]; exact hA.2.2.2.1, hA.2.2.2.2⟩
        · rw [e3 q (fun e => g2 (by show z.1 ≤ q; omega))]
          exact hA.2.1.2.1 q g1 g2
        · rcases List.mem_append.mp hq with h | h
          · exact hA.2.1.2.2 q h
          · show z.1 ≤ q.base
            rw [e4 q h]; omega
    · cases hs
  · cases hs
theorem mk_spec {own name : String} {a index : Nat} {ins : Instr} (hs : mspec a pc lv st h = some o) (kn : mNext p l e R s m args below meth c Q z ca D s.heap nL L0 S0 o) (hA : mAt z ca D s.heap nL L0 S0 lv h H locs ls cells slots) (hC : mCx p R s m args meth c z ca D cc nL own name) (hce : cells ≤ R.cells) (hsl : slots ≤ R.slots)
    (hdg : decode cc pc = .ok (ins, 3)) (hk : (a = 0 ∧ ins = .invokespecial index ∧ Cond.methodLink own index Lib.objectInit ∈ mTB) ∨ (a = 1 ∧ ins = .invokestatic index ∧ Cond.methodLink own index Lib.Math.max.name ∈ mTB) ∨ (a = 2 ∧ ins = .invokestatic index ∧ Cond.methodLink own index Lib.Math.min.name ∈ mTB) ∨ (a = 3 ∧ ins = .invokestatic index ∧ Cond.methodLink own index Lib.Math.abs.name ∈ mTB) ∨ (a = 4 ∧ ins = .invokestatic index ∧ Cond.methodLink own index arraycopyName ∈ mTB)) : W p l e R s m args below meth c H locs cells slots Q (F0 m pc ls (st.map (sv z))) := by
  obtain ⟨hx, hb, hml, hts, hown, hG, hnm, hfr, hlo, hz0⟩ := id hC
  have hls : ls.size = nL := hA.2.2.1.1
  rcases hk with ⟨rfl, rfl, hm⟩ | ⟨rfl, rfl, hm⟩ | ⟨rfl, rfl, hm⟩ | ⟨rfl, rfl, hm⟩ | ⟨rfl, rfl, hm⟩
  · unfold mspec at hs
    split at hs <;> first | (rename_i h0; cases h0; done) | skip
    all_goals first | (cases hs; done) | skip
    rename_i a r _
    cases hc : (Nat.ble r.length 8 && r.all mone) with
    | false => simp only [hc, cond_false] at hs; cases hs
    | true =>
      simp only [hc, cond_true] at hs
      rw [Bool.and_eq_true] at hc
      have h8 := msum8 (z := z) (Nat.le_of_ble_eq_true hc.1) hc.2
      exact W.objInit (rest := r.map (sv z)) hx hb hown (hts _ hm) (hts _ mf_oi) (hts _ mf_oc) rfl (by rw [hml]; exact hls) rfl hdg (by omega) (by show 2 * 0 + _ + 12 ≤ _; omega) (mk_nx hs kn hA)
  · unfold mspec at hs
    split at hs <;> first | (rename_i h0; cases h0; done) | skip
    all_goals first | (cases hs; done) | skip
    rename_i y x r _
    cases hc : (Nat.ble r.length 8 && r.all mone) with
    | false => simp only [hc, cond_false] at hs; cases hs
    | true =>
      simp only [hc, cond_true] at hs
      rw [Bool.and_eq_true] at hc
      have h8 := msum8 (z := z) (Nat.le_of_ble_eq_true hc.1) hc.2
      exact va_mmax (rest := r.map (sv z)) hx hb (by rw [hml, hls]) hown (hts _ hm) (hts _ mf_max_s) (hts _ mf_math) (hts _ mf_max_c) (by omega) (by omega) hce hsl hdg (mk_nx hs kn hA)
  · unfold mspec at hs
    split at hs <;> first | (rename_i h0; cases h0; done) | skip
    all_goals first | (cases hs; done) | skip
    rename_i y x r _
    cases hc : (Nat.ble r.length 8 && r.all mone) with
    | false => simp only [hc, cond_false] at hs; cases hs
    | true =>
      simp only [hc, cond_true] at hs
      rw [Bool.and_eq_true] at hc
      have h8 := msum8 (z := z) (Nat.le_of_ble_eq_true hc.1) hc.2
      exact va_mmin (rest := r.map (sv z)) hx hb (by rw [hml, hls]) hown (hts _ hm) (hts _ mf_min_s) (hts _ mf_math) (hts _ mf_min_c) (by omega) (by omega) hce hsl hdg (mk_nx hs kn hA)
  · unfold mspec at hs
    split at hs <;> first | (rename_i h0; cases h0; done) | skip
    all_goals first | (cases hs; done) | skip
    rename_i x r _
    cases hc : (Nat.ble r.length 8 && r.all mone) with
    | false => simp only [hc, cond_false] at hs; cases hs
    | true =>
      simp only [hc, cond_true] at hs
      rw [Bool.and_eq_true] at hc
      have h8 := msum8 (z := z) (Nat.le_of_ble_eq_true hc.1) hc.2
      exact va_mabs (rest := r.map (sv z)) hx hb (by rw [hml, hls]) hown (hts _ hm) (hts _ mf_abs_s) (hts _ mf_math) (hts _ mf_abs_c) (by omega) (by omega) hce hsl hdg (mk_nx hs kn hA)
  · exact mk_cpy hs kn hA hC (hts _ hm) hdg
theorem mk_gets {own name : String} {k index d : Nat} (hs : mgets k pc lv st h = some o) (kn : mNext p l e R s m args below meth c Q z ca D s.heap nL L0 S0 o) (hA : mAt z ca D s.heap nL L0 S0 lv h H locs ls cells slots) (hC : mCx p R s m args meth c z ca D cc nL own name)
    (hk : (bif Nat.beq k 0 then mIn d (.fieldLink own index "java/lang/String" "value" "[B") else mIn d (.fieldLink own index "java/lang/String" "coder" "B")) = true) (hdg : decode cc pc = .ok (.getfield index, 3)) : W p l e R s m args below meth c H locs cells slots Q (F0 m pc ls (st.map (sv z))) := by
  obtain ⟨hx, hb, hml, hts, hown, hG, hnm, hfr, hlo, hz0⟩ := id hC
  have hS := hG.2.2.2.2.1.1 0 (by decide)
  unfold mgets at hs
  split at hs
  · cases hc : Nat.beq k 0 with
    | true =>
      simp only [hc, cond_true] at hs hk
      exact vk_getf hx hb hS.2.2.1 hA.2.1 hown (hts _ (mIn_mem hk)) (fun _ q => q) hdg (mk_nx hs kn hA)
    | false =>
      simp only [hc, cond_false] at hs hk
      exact vk_getf hx hb hS.2.1 hA.2.1 hown (hts _ (mIn_mem hk)) (fun _ q => q) hdg (mk_nx hs kn hA)
  · cases hs
theorem mk_bld {own name : String} (hs : mbld pc lv st h = some o) (kn : mNext p l e R s m args below meth c Q z ca D s.heap nL L0 S0 o) (hA : mAt z ca D s.heap nL L0 S0 lv h H locs ls cells slots) (hC : mCx p R s m args meth c z ca D cc nL own name)
    (hdg : decode cc pc = .ok (.baload, 1)) : W p l e R s m args below meth c H locs cells slots Q (F0 m pc ls (st.map (sv z))) := by
  obtain ⟨hx, hb, hml, hts, hown, hG, hnm, hfr, hlo, hz0⟩ := id hC
  unfold mbld at hs
  split at hs
  · rename_i i r
    split at hs
    · cases hs
    · rename_i hi
      split at hs
      · rename_i v hv
        have hl : i.toNatClampNeg < 10 := (List.getElem?_eq_some_iff.mp hv).1
        have hgd : mbyt.getD i.toNatClampNeg 0 = v := by rw [List.getD_eq_getElem?_getD, hv]; rfl
        have hS := hG.2.2.2.2.1.1 0 (by decide)
        exact va_tb hx hb hS.2.2.2 hA.2.1 (fun q => q.elim hi (fun q => by have q : 10 ≤ i.toNatClampNeg := q; omega)) (v := .int v) (by show Value.int (mbyt.getD i.toNatClampNeg 0) = _; rw [hgd]) hdg (mk_nx hs kn hA)
      · cases hs
  · exact mk_ald (scr := none) hs kn hA (fun a n f i r h1 h2 k => va_zald hx hb hG.1 h1 0 1 rfl rfl h2 hdg k) (fun q i r hq h2 k => by cases hq)
end MT
