theorem mtys_at {ca : Nat → ClassId} {t : Nat} (h1 : 1 < t) (h2 : t < 6) : ∃ q : vw_C, mcl[mcOf t]? = some q ∧ (mtys ca)[t]? = some (ca t, .object q.1) := by
  match t, h1, h2 with
  | 2, _, _ => exact ⟨_, rfl, rfl⟩
  | 3, _, _ => exact ⟨_, rfl, rfl⟩
  | 4, _, _ => exact ⟨_, rfl, rfl⟩
  | 5, _, _ => exact ⟨_, rfl, rfl⟩
theorem mtys_any {ca : Nat → ClassId} {t : Nat} (h2 : t < 6) : ∃ ty : FieldType, (mtys ca)[t]? = some (ca t, ty) := by
  match t, h2 with
  | 0, _ => exact ⟨_, rfl⟩
  | 1, _ => exact ⟨_, rfl⟩
  | 2, _ => exact ⟨_, rfl⟩
  | 3, _ => exact ⟨_, rfl⟩
  | 4, _ => exact ⟨_, rfl⟩
  | 5, _ => exact ⟨_, rfl⟩
theorem mrf_sv (z : mZ) (r : Option Nat) : sv z (mrf r) = va_rf (so z r) := by cases r <;> rfl
theorem mrq_sv {z : mZ} {v : Value} {r : Option Nat} (h : mrq v = some r) : sv z v = va_rf (so z r) := by
  unfold mrq at h
  split at h <;> cases h <;> rfl
theorem so_inj {z : mZ} {a b : Option Nat} (h : so z a = so z b) : a = b := by
  cases a <;> cases b <;> simp [so] at h ⊢
  omega
theorem mP.lt {z : mZ} {ca : Nat → ClassId} {D : va_G} {h : List mC} {H : Heap} (hP : mP z ca D h H) {k : Nat} {e : mC} (hk : h[k]? = some e) : z.1 + k < H.size := (hP.2 k e hk).lt
section MA
variable {p : Program} {l : Launch} {e : Env} {R : Room} {s : State} {m : MethodId} {args : Array Value} {below : List Frame} {meth : Method} {c : Code} {H : Heap} {locs : List Loc} {cells slots : Nat} {Q : State → Prop}
variable {cc : ByteArray} {pc : Nat} {ls : Array Slot} {z : mZ} {ca : Nat → ClassId} {D : va_G} {H0 : Heap} {nL L0 S0 : Nat} {lv : mL} {st : List Value} {h : mS} {o : mO}
theorem mk_ifa {eq : Bool} {t : Nat} {off : Int} (hs : mifa eq pc t lv st h = some o) (kn : mNext p l e R s m args below meth c Q z ca D H0 nL L0 S0 o) (hA : mAt z ca D H0 nL L0 S0 lv h H locs ls cells slots)
    (row : ∀ (rx ry : Option Nat) (rest : List Value), ((decide (rx = ry) == eq) = true → W p l e R s m args below meth c H locs cells slots Q (F0 m t ls rest)) → ((decide (rx = ry) == eq) = false → W p l e R s m args below meth c H locs cells slots Q (F0 m (pc + 3) ls rest)) → W p l e R s m args below meth c H locs cells slots Q (F0 m pc ls (va_rf ry :: va_rf rx :: rest))) : W p l e R s m args below meth c H locs cells slots Q (F0 m pc ls (st.map (sv z))) := by
  unfold mifa at hs
  split at hs
  · rename_i y x r
    split at hs
    · rename_i a b ha hb
      rw [List.map_cons, List.map_cons, mrq_sv ha, mrq_sv hb]
      have hd : (decide (so z a = so z b) == eq) = (decide (a = b) == eq) := by
        congr 1
        by_cases hab : a = b
        · subst hab; simp
        · have : ¬ so z a = so z b := fun q => hab (so_inj q)
          simp [hab, this]
      refine row _ _ _ (fun hc => ?_) (fun hc => ?_)
      · rw [hd] at hc
        simp only [hc, cond_true] at hs
        exact mk_nx hs kn hA
      · rw [hd] at hc
        simp only [hc, cond_false] at hs
        exact mk_nx hs kn hA
    · cases hs
  · cases hs
theorem mk_ald {t : Nat} {scr : Option (Nat × (Nat → Int32))} (hs : mald t pc scr lv st h = some o) (kn : mNext p l e R s m args below meth c Q z ca D H0 nL L0 S0 o) (hA : mAt z ca D H0 nL L0 S0 lv h H locs ls cells slots)
    (row : ∀ (a n : Nat) (f : Nat → Int32) (i : Int32) (rest : List Value), va_P D mcl [(a, .inl (ca t, n, .inl f))] H → vp_in i n → W p l e R s m args below meth c H locs cells slots Q (F0 m (pc + 1) ls (.int (f i.toNatClampNeg) :: rest)) → W p l e R s m args below meth c H locs cells slots Q (F0 m pc ls (.int i :: .ref a :: rest)))
    (rowS : ∀ (q : Nat × (Nat → Int32)) (i : Int32) (rest : List Value), scr = some q → vp_in i q.1 → W p l e R s m args below meth c H locs cells slots Q (F0 m (pc + 1) ls (.int (q.2 i.toNatClampNeg) :: rest)) → W p l e R s m args below meth c H locs cells slots Q (F0 m pc ls (.int i :: .ref z.2.2.1 :: rest))) : W p l e R s m args below meth c H locs cells slots Q (F0 m pc ls (st.map (sv z))) := by
  unfold mald at hs
  split at hs
  · rename_i i a r
    split at hs
    · rename_i t' xs ho
      cases hc : Nat.beq t t' with
      | false => simp only [hc, cond_false] at hs; cases hs
      | true =>
        simp only [hc, cond_true] at hs
        have ht := Nat.eq_of_beq_eq_true hc
        subst ht
        split at hs
        · cases hs
        · rename_i hi
          split at hs
          · rename_i v hv
            have hl := (List.getElem?_eq_some_iff.mp hv).1
            have hgd : xs.getD i.toNatClampNeg 0 = v := by rw [List.getD_eq_getElem?_getD, hv]; rfl
            refine row _ _ _ _ _ (hA.1.one ho) (fun q => q.elim hi (fun q => by omega)) ?_
            show W p l e R s m args below meth c H locs cells slots Q (F0 m (pc + 1) ls (.int (xs.getD i.toNatClampNeg 0) :: r.map (sv z)))
            rw [hgd]
            exact mk_nx hs kn hA
          · cases hs
    · cases hs
  · rename_i i r
    split at hs
    · rename_i q
      split at hs
      · cases hs
      · rename_i hi
        exact rowS q _ _ rfl hi (mk_nx hs kn hA)
    · cases hs
  · cases hs
theorem mset_fun {α : Type} {xs : List α} {j : Nat} {x d : α} (hj : j < xs.length) (q : Nat) : (xs.set j x).getD q d = if q = j then x else xs.getD q d := by
  rw [List.getD_eq_getElem?_getD, List.getD_eq_getElem?_getD]
  by_cases hq : q = j
  · subst hq
    rw [List.getElem?_set_self hj, if_pos rfl]; rfl
  · rw [List.getElem?_set_ne (Ne.symm hq), if_neg hq]
theorem mk_ast {t : Nat} (hs : mast t pc lv st h = some o) (kn : mNext p l e R s m args below meth c Q z ca D H0 nL L0 S0 o) (hA : mAt z ca D H0 nL L0 S0 lv h H locs ls cells slots)
    (row : ∀ (a n : Nat) (f : Nat → Int32) (i x : Int32) (rest : List Value), H[a]? = some (vp_cell (ca t) (n, .inl f)) → vp_in i n → (t = 0 ∨ x = 0 ∨ x = 1) → (∀ (H1 : Heap) (j : Nat), H1[a]? = some (vp_cell (ca t) (n, .inl (upd f i.toNatClampNeg x))) → H1.size = H.size → (∀ q : Nat, q ≠ a → H1[q]? = H[q]?) → W p l e R s m args below meth c H1 (locs ++ [⟨a, j⟩]) cells slots Q (F0 m (pc + 1) ls rest)) → W p l e R s m args below meth c H locs cells slots Q (F0 m pc ls (.int x :: .int i :: .ref a :: rest))) : W p l e R s m args below meth c H locs cells slots Q (F0 m pc ls (st.map (sv z))) := by
  unfold mast at hs
  split at hs
  · rename_i x i a r
    split at hs
    · rename_i t' xs ho
      cases hc : (Nat.beq t t' && (Nat.beq t 0 || (x == 0 || x == 1))) with
      | false => simp only [hc, cond_false] at hs; cases hs
      | true =>
        simp only [hc, cond_true] at hs
        rw [Bool.and_eq_true, Bool.or_eq_true, Bool.or_eq_true, beq_iff_eq, beq_iff_eq] at hc
        obtain ⟨hc1, hc2⟩ := hc
        have ht := Nat.eq_of_beq_eq_true hc1
        subst ht
        split at hs
        · cases hs
        · rename_i hi
          refine row _ _ _ _ _ _ (hA.1.2 a _ ho) hi (hc2.imp Nat.eq_of_beq_eq_true id) (fun H1 j h1 h2 h3 => ?_)
          refine mk_nx hs kn (hA.put ?_ h2 h3)
          show H1[z.1 + a]? = some (vp_cell (ca t) ((xs.set i.toNatClampNeg x).length, .inl (fun q => (xs.set i.toNatClampNeg x).getD q 0)))
          have hf : (fun q => (xs.set i.toNatClampNeg x).getD q 0) = upd (fun q => xs.getD q 0) i.toNatClampNeg x := by
            funext q
            rw [mset_fun (Nat.not_le.mp fun q => hi (Or.inr q))]
            rfl
          rw [hf, List.length_set]
          exact h1
    · cases hs
  · cases hs
theorem mk_iastW {a n : Nat} {f : Nat → Int32} {i x : Int32} {rest : List Value} (hx : p.tables.exec = Jvm.exec) (hb : c.code = cc) (hK : va_K D mcl (mtys ca) s) (hat : H[a]? = some (vp_cell (ca 0) (n, .inl f))) (hin : vp_in i n) (hdg : decode cc pc = .ok (.iastore, 1))
    (kk : ∀ (H1 : Heap) (j : Nat), H1[a]? = some (vp_cell (ca 0) (n, .inl (upd f i.toNatClampNeg x))) → H1.size = H.size → (∀ q : Nat, q ≠ a → H1[q]? = H[q]?) → W p l e R s m args below meth c H1 (locs ++ [⟨a, j⟩]) cells slots Q (F0 m (pc + 1) ls rest)) : W p l e R s m args below meth c H locs cells slots Q (F0 m pc ls (.int x :: .int i :: .ref a :: rest)) := by
  refine W.iast hx hb hat ((hK.2 0 _ rfl).1 n (fun j => .int (f j))) (fun q => by cases q) (by show ¬ (i < 0 ∨ (arrV _ _ _).slots.size ≤ _); rw [arrV_size]; exact hin) rfl rfl hdg fun H1 e z oq => ?_
  refine kk H1 _ ?_ z oq
  rw [e, vp_cell_i, vp_cell_i, arrV_store]
  congr 2
  funext q
  by_cases hq : q = i.toNatClampNeg
  · subst hq
    simp [updV, upd]
  · simp [updV, upd, hq]
theorem mk_zastW {a n : Nat} {f : Nat → Int32} {i x : Int32} {rest : List Value} (hx : p.tables.exec = Jvm.exec) (hb : c.code = cc) (hK : va_K D mcl (mtys ca) s) (hat : H[a]? = some (vp_cell (ca 1) (n, .inl f))) (hin : vp_in i n) (hv : x = 0 ∨ x = 1) (hdg : decode cc pc = .ok (.bastore, 1))
    (kk : ∀ (H1 : Heap) (j : Nat), H1[a]? = some (vp_cell (ca 1) (n, .inl (upd f i.toNatClampNeg x))) → H1.size = H.size → (∀ q : Nat, q ≠ a → H1[q]? = H[q]?) → W p l e R s m args below meth c H1 (locs ++ [⟨a, j⟩]) cells slots Q (F0 m (pc + 1) ls rest)) : W p l e R s m args below meth c H locs cells slots Q (F0 m pc ls (.int x :: .int i :: .ref a :: rest)) := by
  have hnar : narrow .boolean (.int x) = .int x := by rcases hv with rfl | rfl <;> decide +kernel
  refine W.zast hx hb hat ((hK.2 1 _ rfl).1 n (fun j => .int (f j))) (fun q => by cases q) (by show ¬ (i < 0 ∨ (arrV _ _ _).slots.size ≤ _); rw [arrV_size]; exact hin) rfl rfl hdg fun H1 e z oq => ?_
  refine kk H1 _ ?_ z oq
  rw [e, vp_cell_i, vp_cell_i, arrV_store]
  congr 2
  funext q
  by_cases hq : q = i.toNatClampNeg
  · subst hq
    simp [updV, upd]
    first | exact hnar | (rw [hnar])
  · simp [updV, upd, hq]
theorem mk_alen {scr : Option (Nat × (Nat → Int32))} (hs : malen pc scr lv st h = some o) (kn : mNext p l e R s m args below meth c Q z ca D H0 nL L0 S0 o) (hA : mAt z ca D H0 nL L0 S0 lv h H locs ls cells slots)
    (hx : p.tables.exec = Jvm.exec) (hb : c.code = cc) (hK : va_K D mcl (mtys ca) s) (hdg : decode cc pc = .ok (.arraylength, 1))
    (rowS : ∀ (q : Nat × (Nat → Int32)) (rest : List Value), scr = some q → W p l e R s m args below meth c H locs cells slots Q (F0 m (pc + 1) ls (.int (Int32.ofNat q.1) :: rest)) → W p l e R s m args below meth c H locs cells slots Q (F0 m pc ls (.ref z.2.2.1 :: rest)))
    (rowT : ∀ (rest : List Value), W p l e R s m args below meth c H locs cells slots Q (F0 m (pc + 1) ls (.int 10 :: rest)) → W p l e R s m args below meth c H locs cells slots Q (F0 m pc ls (.ref z.2.2.2 :: rest))) : W p l e R s m args below meth c H locs cells slots Q (F0 m pc ls (st.map (sv z))) := by
  unfold malen at hs
  split at hs
  · rename_i a r
    split at hs
    · rename_i t xs ho
      cases hc : Nat.blt t 6 with
      | false => simp only [hc, cond_false] at hs; cases hs
      | true =>
        simp only [hc, cond_true] at hs
        obtain ⟨ty, hty⟩ := mtys_any (ca := ca) (Nat.blt_eq.mp hc)
        exact va_alen (x := (xs.length, .inl (fun j => xs.getD j 0))) hx hb hK (hA.1.one ho) 0 t rfl hty rfl hdg (mk_nx hs kn hA)
    · cases hs
  · rename_i r
    split at hs
    · rename_i q
      exact rowS q _ rfl (mk_nx hs kn hA)
    · cases hs
  · exact rowT _ (mk_nx hs kn hA)
  · cases hs
theorem mk_aldq (hs : maldq pc lv st h = some o) (kn : mNext p l e R s m args below meth c Q z ca D H0 nL L0 S0 o) (hA : mAt z ca D H0 nL L0 S0 lv h H locs ls cells slots)
    (hx : p.tables.exec = Jvm.exec) (hb : c.code = cc) (hK : va_K D mcl (mtys ca) s) (hdg : decode cc pc = .ok (.aaload, 1)) : W p l e R s m args below meth c H locs cells slots Q (F0 m pc ls (st.map (sv z))) := by
  unfold maldq at hs
  split at hs
  · rename_i i a r
    split at hs
    · rename_i t qs ho
      cases hc : (Nat.blt 1 t && Nat.blt t 6) with
      | false => simp only [hc, cond_false] at hs; cases hs
      | true =>
        simp only [hc, cond_true] at hs
        rw [Bool.and_eq_true] at hc
        obtain ⟨q, hq, hty⟩ := mtys_at (ca := ca) (Nat.blt_eq.mp hc.1) (Nat.blt_eq.mp hc.2)
        split at hs
        · cases hs
        · rename_i hi
          split at hs
          · rename_i v hv
            have hl := (List.getElem?_eq_some_iff.mp hv).1
            have hgd : qs.getD i.toNatClampNeg none = v := by rw [List.getD_eq_getElem?_getD, hv]; rfl
            refine va_aldq hx hb hK (hA.1.one ho) 0 t (n := qs.length) (f := fun j => so z (qs.getD j none)) rfl hty (fun q => q.elim hi (fun q => by omega)) hdg ?_
            rw [hgd, ← mrf_sv]
            exact mk_nx hs kn hA
          · cases hs
    · cases hs
  · cases hs
theorem mk_astq (hs : mastq pc lv st h = some o) (kn : mNext p l e R s m args below meth c Q z ca D H0 nL L0 S0 o) (hA : mAt z ca D H0 nL L0 S0 lv h H locs ls cells slots)
    (hx : p.tables.exec = Jvm.exec) (hb : c.code = cc) (hK : va_K D mcl (mtys ca) s) (hdg : decode cc pc = .ok (.aastore, 1)) : W p l e R s m args below meth c H locs cells slots Q (F0 m pc ls (st.map (sv z))) := by
  unfold mastq at hs
  split at hs
  · rename_i v i a r
    split at hs
    · rename_i t qs o1 ho hv
      obtain ⟨ci, vs⟩ := o1
      cases hc : (Nat.blt 1 t && (Nat.blt t 6 && Nat.beq ci (mcOf t))) with
      | false => simp only [hc, cond_false] at hs; cases hs
      | true =>
        simp only [hc, cond_true] at hs
        rw [Bool.and_eq_true, Bool.and_eq_true] at hc
        obtain ⟨q, hq, hty⟩ := mtys_at (ca := ca) (Nat.blt_eq.mp hc.1) (Nat.blt_eq.mp hc.2.1)
        have hci := Nat.eq_of_beq_eq_true hc.2.2
        split at hs
        · cases hs
        · rename_i hi
          have hlt : i.toNatClampNeg < qs.length := Nat.not_le.mp fun q => hi (Or.inr q)
          have h0 : ¬ i < 0 := fun q => hi (Or.inl q)
          obtain ⟨r', hr', cellV, g1, g2, g3, -⟩ := hA.1.2 v _ hv
          have hr2 : r' = q := Option.some.inj (hr'.symm.trans (by show mcl[ci]? = some q; rw [hci]; exact hq))
          subst hr2
          have hcls := (hK.1 (mcOf t) r' hq).2
          obtain ⟨kA, comp, k1, k2, k3, -⟩ := (hK.2 t _ hty).2
          have hcomp : comp = D.1 (mcOf t) := Option.some.inj (k3.symm.trans hcls.1)
          subst hcomp
          obtain ⟨kC, hkC, -⟩ := hcls.2
          have g2' : cellV.cls = D.1 (mcOf t) := by rw [← hci]; exact g2
          refine W.aast (rest := r.map (sv z)) hx hb (hA.1.2 a _ ho) (fun q h => by cases h) (fun h => by cases h) k1 k2 rfl hkC ⟨h0, by show _ < (arrV _ _ _).slots.size; rw [arrV_size]; exact hlt⟩ g1 (fun q h => by rw [g3] at h; cases h) (by rw [g2']; exact hkC) (by rw [g2']; exact va_assign hcls) rfl rfl hdg fun H1 e zz oq => ?_
          refine mk_nx hs kn (hA.put ?_ zz oq)
          show H1[z.1 + a]? = some (vp_cell (ca t) ((qs.set i.toNatClampNeg (some v)).length, .inr (.inr (.inr (.inr (fun j => so z ((qs.set i.toNatClampNeg (some v)).getD j none)))))))
          rw [e]
          show some ((vp_cell (ca t) (qs.length, .inr (.inr (.inr (.inr (fun j => so z (qs.getD j none))))))).setSlot _ _) = _
          rw [List.length_set]
          have hf : (fun j => so z ((qs.set i.toNatClampNeg (some v)).getD j none)) = fun j => if j = i.toNatClampNeg then so z (some v) else so z (qs.getD j none) := by
            funext j
            rw [mset_fun hlt]
            by_cases hj : j = i.toNatClampNeg
            · rw [if_pos hj, if_pos hj]
            · rw [if_neg hj, if_neg hj]
          rw [hf]
          rw [vp_cell_q, vp_cell_q, arrV_store]
          congr 2
          funext q
          by_cases hq : q = i.toNatClampNeg
          · subst hq
            simp [updV, va_rf, so]
          · simp [updV, hq]
    · cases hs
  · cases hs
end MA
