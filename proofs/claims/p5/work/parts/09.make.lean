theorem mdef_ok (ty : FieldType) (h : ty = .int ∨ ty = .boolean ∨ (∃ C, ty = .object C) ∨ ∃ t, ty = .array t) : defaultValue ty = mdef ty := by
  rcases h with rfl | rfl | ⟨C, rfl⟩ | ⟨t, rfl⟩ <;> rfl
def mtyk : FieldType → Bool
  | .int => true
  | .boolean => true
  | .object _ => true
  | .array _ => true
  | _ => false
theorem mtyk_ok {ty : FieldType} (h : mtyk ty = true) : defaultValue ty = mdef ty := by
  cases ty <;> first | rfl | cases h
theorem mdef_sv (z : mZ) (ty : FieldType) : sv z (mdef ty) = mdef ty := by cases ty <;> rfl
theorem mcl_k : (List.range 12).all (fun ci => (List.range (mnof ci)).all (fun k => mtyk (mtyOf ci k))) = true := by decide +kernel
theorem mcl_lt {ci : Nat} {q : vw_C} (h : mcl[ci]? = some q) : ci < 12 := (List.getElem?_eq_some_iff.mp h).1
section MN
variable {p : Program} {l : Launch} {e : Env} {R : Room} {s : State} {m : MethodId} {args : Array Value} {below : List Frame} {meth : Method} {c : Code} {H : Heap} {locs : List Loc} {cells slots : Nat} {Q : State → Prop}
variable {cc : ByteArray} {pc : Nat} {ls : Array Slot} {z : mZ} {ca : Nat → ClassId} {D : va_G} {H0 : Heap} {nL L0 S0 : Nat} {lv : mL} {st : List Value} {h : mS} {o : mO}
theorem mAt.push {n : Nat} {e' : mC} {H1 : Heap} (hA : mAt z ca D H0 nL L0 S0 lv h H locs ls cells slots) (he : va_at D mcl (H.size, se z ca e') H1) (hz : H1.size = H.size + 1) (oq : ∀ q : Nat, q < H.size → H1[q]? = H[q]?) : mAt z ca D H0 nL L0 S0 lv (h.1 ++ [e'], h.2 + n) H1 locs ls (cells + 1) (slots + n) :=
  ⟨hA.1.push he hz oq, ⟨Nat.le_trans hA.2.1.1 (by omega), fun x h1 h2 => (oq x (Nat.lt_of_lt_of_le h1 hA.2.1.1)).trans (hA.2.1.2.1 x h1 h2), hA.2.1.2.2⟩, hA.2.2.1, by rw [List.length_append, hA.2.2.2.1]; rfl, by show h.2 + n = _; rw [hA.2.2.2.2]; omega⟩
/-- the room that is left at a step: what the step's own new cells need -/
def mRoom (R : Room) (L0 S0 : Nat) (o : mO) : Prop := ∀ (pc' : Nat) (lv' : mL) (st' : List Value) (h' : mS), o = .inl (pc', lv', st', h') → h'.1.length ≤ L0 + R.cells ∧ h'.2 ≤ S0 + R.slots
theorem mk_new {own : String} {ci index : Nat} {q : vw_C} (hs : mnew ci pc lv st h = some o) (kn : mNext p l e R s m args below meth c Q z ca D H0 nL L0 S0 o) (hA : mAt z ca D H0 nL L0 S0 lv h H locs ls cells slots) (hR : mRoom R L0 S0 o)
    (hx : p.tables.exec = Jvm.exec) (hb : c.code = cc) (hts : ∀ w ∈ mTB, w.before args s = true) (hin : ∀ w ∈ u_ws q.1 q.2.1 q.2.2, w ∈ mTB) (hown : s.vm.findClass own = some m.cls) (hK : va_K D mcl (mtys ca) s) (hq : mcl[ci]? = some q)
    (hcl : (Cond.classLink own index q.1).before args s = true) (hinst : (Cond.instantiable q.1 q.2.2).before args s = true) (hini : (Cond.initialized q.1).before args s = true) (hdg : decode cc pc = .ok (.new index, 3)) : W p l e R s m args below meth c H locs cells slots Q (F0 m pc ls (st.map (sv z))) := by
  unfold mnew at hs
  have hr := hR _ _ _ _ (Option.some.inj hs).symm
  have hn : mnof ci = q.2.2 := by unfold mnof; rw [hq]
  rw [hn] at hs hr
  have hKn := hK.1 ci _ hq
  have h1 : cells + 1 ≤ R.cells := by
    have := hr.1
    rw [List.length_append, hA.2.2.2.1] at this
    simp at this; omega
  have h2 : slots + q.2.2 ≤ R.slots := by
    have := hr.2
    show _ ≤ _
    have h3 := hA.2.2.2.2
    simp at this; omega
  refine W.newcK hx hb hown hcl hinst hini rfl hdg h1 h2 hKn.2.1 rfl fun H1 kC hkC e1 z1 o1 => ?_
  have hty := (mcl_ty hq).1
  have hall := List.all_eq_true.mp mcl_k ci (List.mem_range.mpr (mcl_lt hq))
  have hat : va_at D mcl (H.size, se z ca (.inr (ci, (List.range q.2.2).map (fun k => mdef (mtyOf ci k))))) H1 := by
    refine ⟨_, hq, (u_born (mtyOf ci) hts hin hKn hkC e1 hty).to (fun j hj => ?_)⟩
    rw [mtyk_ok (List.all_eq_true.mp hall j (List.mem_range.mpr (by rw [hn]; exact hj)))]
    show _ = vp_V (((List.range q.2.2).map (fun k => mdef (mtyOf ci k))).map (sv z)) j
    simp [vp_V, hj, mdef_sv]
  have := mk_nx hs kn (hA.push hat z1 o1)
  rw [List.map_cons] at this
  rw [show sv z (.ref h.1.length) = .ref H.size by rw [hA.1.1]; rfl] at this
  exact this
theorem mk_newa {t : Nat} {ty : ArrayType} (hs : mnewa t pc lv st h = some o) (kn : mNext p l e R s m args below meth c Q z ca D H0 nL L0 S0 o) (hA : mAt z ca D H0 nL L0 S0 lv h H locs ls cells slots) (hR : mRoom R L0 S0 o)
    (hx : p.tables.exec = Jvm.exec) (hb : c.code = cc) (harr : (Cond.arrayClass (newarray.typeOf ty)).before args s = true) (hca : ∀ cA, s.vm.findClass ("[" ++ (newarray.typeOf ty).toString) = some cA → cA = ca t) (hdef : defaultValue (newarray.typeOf ty) = .int 0) (hby : componentBytes (newarray.typeOf ty) ≤ 4) (hdg : decode cc pc = .ok (.newarray ty, 2)) : W p l e R s m args below meth c H locs cells slots Q (F0 m pc ls (st.map (sv z))) := by
  unfold mnewa at hs
  split at hs
  · rename_i n r
    split at hs
    · cases hs
    · rename_i hn
      have hr := hR _ _ _ _ (Option.some.inj hs).symm
      have h0 : ¬ n < 0 := fun q => hn (Or.inl q)
      have h9 : ¬ 100000 < n := fun q => hn (Or.inr q)
      have hN : n.toNatClampNeg ≤ 100000 := by
        have h3 := Int32.not_lt.mp h9
        have h4 := Int32.le_iff_toInt_le.mp h3
        show n.toInt.toNat ≤ 100000
        have h5 : (100000 : Int32).toInt = 100000 := by decide
        omega
      have h1 : cells + 1 ≤ R.cells := by
        have := hr.1
        rw [List.length_append, hA.2.2.2.1] at this
        simp at this; omega
      have h2 : slots + n.toNatClampNeg ≤ R.slots := by
        have := hr.2
        have h3 := hA.2.2.2.2
        simp at this; omega
      refine va_newaK (rest := r.map (sv z)) hx hb harr rfl hdg rfl h0 rfl (by
        have := Nat.mul_le_mul hN hby
        omega) h1 h2 rfl fun H1 cA e1 z1 o1 hAr hNm => ?_
      have hcA := hca cA hNm
      subst hcA
      have hat : va_at D mcl (H.size, se z ca (.inl (t, .inl (List.replicate n.toNatClampNeg 0)))) H1 := by
        show H1[H.size]? = some (vp_cell (ca t) ((List.replicate n.toNatClampNeg (0 : Int32)).length, .inl (fun j => (List.replicate n.toNatClampNeg (0 : Int32)).getD j 0)))
        have hf : (fun j => (List.replicate n.toNatClampNeg (0 : Int32)).getD j 0) = fun _ => 0 := by
          funext j
          rw [List.getD_eq_getElem?_getD, List.getElem?_replicate]
          split <;> rfl
        rw [hf, List.length_replicate, e1, hdef, vp_cell_i]
      have := mk_nx hs kn (hA.push hat z1 o1)
      rw [List.map_cons] at this
      rw [show sv z (.ref h.1.length) = .ref H.size by rw [hA.1.1]; rfl] at this
      exact this
  · cases hs
theorem mk_newq {own C : String} {t index : Nat} (hs : mnewq t pc lv st h = some o) (kn : mNext p l e R s m args below meth c Q z ca D H0 nL L0 S0 o) (hA : mAt z ca D H0 nL L0 S0 lv h H locs ls cells slots) (hR : mRoom R L0 S0 o)
    (hx : p.tables.exec = Jvm.exec) (hb : c.code = cc) (hown : s.vm.findClass own = some m.cls) (hclink : (Cond.classLink own index C).before args s = true) (hover : va_AO C s) (hca : ∀ cA, s.vm.findClass ("[" ++ (FieldType.object C).toString) = some cA → cA = ca t) (hdg : decode cc pc = .ok (.anewarray index, 3)) : W p l e R s m args below meth c H locs cells slots Q (F0 m pc ls (st.map (sv z))) := by
  unfold mnewq at hs
  split at hs
  · rename_i n r
    split at hs
    · cases hs
    · rename_i hn
      have hr := hR _ _ _ _ (Option.some.inj hs).symm
      have h0 : ¬ n < 0 := fun q => hn (Or.inl q)
      have h9 : ¬ 100000 < n := fun q => hn (Or.inr q)
      have hN : n.toNatClampNeg ≤ 100000 := by
        have h3 := Int32.not_lt.mp h9
        have h4 := Int32.le_iff_toInt_le.mp h3
        show n.toInt.toNat ≤ 100000
        have h5 : (100000 : Int32).toInt = 100000 := by decide
        omega
      have h1 : cells + 1 ≤ R.cells := by
        have := hr.1
        rw [List.length_append, hA.2.2.2.1] at this
        simp at this; omega
      have h2 : slots + n.toNatClampNeg ≤ R.slots := by
        have := hr.2
        have h3 := hA.2.2.2.2
        simp at this; omega
      refine W.anew (rest := r.map (sv z)) hx hb hown hclink (va_AO.use hover) rfl hdg rfl h0 (by omega) h1 h2 fun cA kA comp f1 f2 f3 f4 => ?_
      have hcA := hca cA (by first | exact f1 | exact f4)
      subst hcA
      have hat : va_at D mcl (H.size, se z ca (.inl (t, .inr (List.replicate n.toNatClampNeg none)))) (H.push ({ cls := ca t, slots := Array.replicate n.toNatClampNeg .null, vm := .none } : Cell)) := by
        show (H.push _)[H.size]? = some (vp_cell (ca t) ((List.replicate n.toNatClampNeg (none : Option Nat)).length, .inr (.inr (.inr (.inr (fun j => so z ((List.replicate n.toNatClampNeg (none : Option Nat)).getD j none)))))))
        have hf : (fun j => so z ((List.replicate n.toNatClampNeg (none : Option Nat)).getD j none)) = fun _ => none := by
          funext j
          rw [List.getD_eq_getElem?_getD, List.getElem?_replicate]
          split <;> rfl
        rw [hf, List.length_replicate, Array.getElem?_push_size, vp_cell_q, ← arrV_new]
        rfl
      have := mk_nx hs kn (hA.push hat (Array.size_push _) (fun q hq => by rw [Array.getElem?_push, if_neg (Nat.ne_of_lt hq)]))
      rw [List.map_cons] at this
      rw [show sv z (.ref h.1.length) = .ref H.size by rw [hA.1.1]; rfl] at this
      exact this
  · cases hs
theorem mk_ifn {nul : Bool} {t : Nat} (hs : mifn nul pc t lv st h = some o) (kn : mNext p l e R s m args below meth c Q z ca D H0 nL L0 S0 o) (hA : mAt z ca D H0 nL L0 S0 lv h H locs ls cells slots)
    (row0 : ∀ (rest : List Value), (nul = true → W p l e R s m args below meth c H locs cells slots Q (F0 m t ls rest)) → (nul = false → W p l e R s m args below meth c H locs cells slots Q (F0 m (pc + 3) ls rest)) → W p l e R s m args below meth c H locs cells slots Q (F0 m pc ls (.null :: rest)))
    (row1 : ∀ (a : Nat) (rest : List Value), (nul = true → W p l e R s m args below meth c H locs cells slots Q (F0 m (pc + 3) ls rest)) → (nul = false → W p l e R s m args below meth c H locs cells slots Q (F0 m t ls rest)) → W p l e R s m args below meth c H locs cells slots Q (F0 m pc ls (.ref a :: rest))) : W p l e R s m args below meth c H locs cells slots Q (F0 m pc ls (st.map (sv z))) := by
  unfold mifn at hs
  split at hs
  · refine row0 _ (fun hc => ?_) (fun hc => ?_)
    · subst hc; exact mk_nx hs kn hA
    · subst hc; exact mk_nx hs kn hA
  · refine row1 _ _ (fun hc => ?_) (fun hc => ?_)
    · subst hc; exact mk_nx hs kn hA
    · subst hc; exact mk_nx hs kn hA
  · cases hs
theorem mk_sw {off : Int} {r : List Value} (hs : msw pc off lv r h = some o) (kn : mNext p l e R s m args below meth c Q z ca D H0 nL L0 S0 o) (hA : mAt z ca D H0 nL L0 S0 lv h H locs ls cells slots) {g : JFrame}
    (row : ∀ tgt : Nat, (pc : Int) + off = (tgt : Int) → W p l e R s m args below meth c H locs cells slots Q (F0 m tgt ls (r.map (sv z))) → W p l e R s m args below meth c H locs cells slots Q g) : W p l e R s m args below meth c H locs cells slots Q g := by
  unfold msw at hs
  split at hs
  · rename_i h0
    exact row _ (Int.toNat_of_nonneg h0).symm (mk_nx hs kn hA)
  · cases hs
end MN
