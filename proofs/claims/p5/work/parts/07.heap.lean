theorem mcl_ty {ci : Nat} {q : vw_C} (h : mcl[ci]? = some q) : (∀ k, k < q.2.2 → parseFieldDescriptor (q.2.1 k).2.2.1 = some (mtyOf ci k)) ∧ (∀ a, a < q.2.2 → ∀ b, b < q.2.2 → a ≠ b → (q.2.1 a).2.1 ≠ (q.2.1 b).2.1) := by
  match ci, h with
  | 0, h => cases h; exact ⟨tyX0_ok, nmX0⟩
  | 1, h => cases h; exact ⟨tyX1_ok, nmX1⟩
  | 2, h => cases h; exact ⟨tyX2_ok, nmX2⟩
  | 3, h => cases h; exact ⟨tyX3_ok, nmX3⟩
  | 4, h => cases h; exact ⟨tyX4_ok, nmX4⟩
  | 5, h => cases h; exact ⟨tyX5_ok, nmX5⟩
  | 6, h => cases h; exact ⟨tyX6_ok, nmX6⟩
  | 7, h => cases h; exact ⟨tyX7_ok, nmX7⟩
  | 8, h => cases h; exact ⟨tyX8_ok, nmX8⟩
  | 9, h => cases h; exact ⟨tyX9_ok, nmX9⟩
  | 10, h => cases h; exact ⟨tyX10_ok, nmX10⟩
  | 11, h => cases h; exact ⟨tyX11_ok, nmX11⟩
theorem mfit_ok {ty : FieldType} {v : Value} (z : mZ) (h : mfit ty v = true) : narrow ty (sv z v) = sv z v ∧ fits ty (sv z v) = true := by
  unfold mfit at h
  split at h
  · exact ⟨rfl, rfl⟩
  · rename_i x
    rw [Bool.or_eq_true, beq_iff_eq, beq_iff_eq] at h
    rcases h with rfl | rfl
    · exact show narrow .boolean (.int 0) = .int 0 ∧ fits .boolean (.int 0) = true by decide +kernel
    · exact show narrow .boolean (.int 1) = .int 1 ∧ fits .boolean (.int 1) = true by decide +kernel
  · exact ⟨rfl, rfl⟩
  · exact ⟨rfl, rfl⟩
  · exact ⟨rfl, rfl⟩
  · exact ⟨rfl, rfl⟩
  · cases h
theorem mP.one {z : mZ} {ca : Nat → ClassId} {D : va_G} {h : List mC} {H : Heap} (hP : mP z ca D h H) {k : Nat} {e : mC} (hk : h[k]? = some e) : va_P D mcl [(z.1 + k, se z ca e)] H := by
  intro j q hj
  cases j with
  | zero => cases hj; exact hP.2 k e hk
  | succ j => cases hj
/-- one cell is written -/
theorem mP.set {z : mZ} {ca : Nat → ClassId} {D : va_G} {h : List mC} {H H1 : Heap} (hP : mP z ca D h H) {a : Nat} {e : mC} (he : va_at D mcl (z.1 + a, se z ca e) H1) (hz : H1.size = H.size) (oq : ∀ q : Nat, q ≠ z.1 + a → H1[q]? = H[q]?) : mP z ca D (h.set a e) H1 := by
  refine ⟨by rw [hz, List.length_set]; exact hP.1, fun k e' hk => ?_⟩
  by_cases hka : a = k
  · subst hka
    by_cases hl : a < h.length
    · rw [List.getElem?_set_self hl] at hk
      cases hk
      exact he
    · rw [List.set_eq_of_length_le (by omega)] at hk
      exact absurd (List.getElem?_eq_some_iff.mp hk).1 hl
  · rw [List.getElem?_set_ne hka] at hk
    exact (hP.2 k e' hk).kept (oq _ (by show z.1 + k ≠ z.1 + a; omega))
/-- one cell is new -/
theorem mP.push {z : mZ} {ca : Nat → ClassId} {D : va_G} {h : List mC} {H H1 : Heap} (hP : mP z ca D h H) {e : mC} (he : va_at D mcl (H.size, se z ca e) H1) (hz : H1.size = H.size + 1) (oq : ∀ q : Nat, q < H.size → H1[q]? = H[q]?) : mP z ca D (h ++ [e]) H1 := by
  refine ⟨by rw [hz, List.length_append, hP.1]; rfl, fun k e' hk => ?_⟩
  by_cases hl : k < h.length
  · rw [List.getElem?_append_left hl] at hk
    exact (hP.2 k e' hk).kept (oq _ (by show z.1 + k < H.size; rw [hP.1]; omega))
  · rw [List.getElem?_append_right (by omega)] at hk
    have hz1 : k - h.length < 1 := (List.getElem?_eq_some_iff.mp hk).1
    have hk0 : k = h.length := by omega
    subst hk0
    rw [Nat.sub_self] at hk
    cases hk
    rw [← hP.1]
    exact he
section MH
variable {p : Program} {l : Launch} {e : Env} {R : Room} {s : State} {m : MethodId} {args : Array Value} {below : List Frame} {meth : Method} {c : Code} {H : Heap} {locs : List Loc} {cells slots : Nat} {Q : State → Prop}
variable {cc : ByteArray} {pc : Nat} {ls : Array Slot} {z : mZ} {ca : Nat → ClassId} {D : va_G} {H0 : Heap} {nL L0 S0 : Nat} {lv : mL} {st : List Value} {h : mS} {o : mO}
theorem mk_getf {own : String} {ci k index : Nat} {q : vw_C} (hs : mgetf ci k pc lv st h = some o) (kn : mNext p l e R s m args below meth c Q z ca D H0 nL L0 S0 o) (hA : mAt z ca D H0 nL L0 S0 lv h H locs ls cells slots)
    (hx : p.tables.exec = Jvm.exec) (hb : c.code = cc) (hts : ∀ w ∈ mTB, w.before args s = true) (hin : ∀ w ∈ u_ws q.1 q.2.1 q.2.2, w ∈ mTB) (hown : s.vm.findClass own = some m.cls) (hK : va_K D mcl (mtys ca) s) (hq : mcl[ci]? = some q) (hk : k < q.2.2)
    (hlink : (Cond.fieldLink own index (q.2.1 k).1 (q.2.1 k).2.1 (q.2.1 k).2.2.1).before args s = true) (hdg : decode cc pc = .ok (.getfield index, 3)) : W p l e R s m args below meth c H locs cells slots Q (F0 m pc ls (st.map (sv z))) := by
  unfold mgetf at hs
  split at hs
  · rename_i a r
    split at hs
    · rename_i o1 ho
      obtain ⟨c1, fs⟩ := o1
      cases hc : Nat.beq c1 ci with
      | false => simp only [hc, cond_false] at hs; cases hs
      | true =>
        have hc1 := Nat.eq_of_beq_eq_true hc
        subst hc1
        simp only [hc, cond_true] at hs
        split at hs
        · rename_i v hv
          exact va_get (D := D) (ci := c1) (C := q.1) (T := q.2.1) (N := q.2.2) hx hb hts hin hown hK (hA.1.one ho) 0 rfl hq k hk hlink (fun _ h9 => h9) (v := sv z v) (by rw [List.getElem?_map, hv]; rfl) hdg (mk_nx hs kn hA)
        · cases hs
    · cases hs
  · cases hs
/-- va_put, with what it says of the heap's size and of the other cells -/
theorem mk_putW {own : String} {ci k index : Nat} {q : vw_C} {a : Nat} {fs rest : List Value} {v : Value} (hx : p.tables.exec = Jvm.exec) (hb : c.code = cc) (hts : ∀ w ∈ mTB, w.before args s = true) (hin : ∀ w ∈ u_ws q.1 q.2.1 q.2.2, w ∈ mTB) (hown : s.vm.findClass own = some m.cls) (hK : va_K D mcl (mtys ca) s) (hq : mcl[ci]? = some q) (hk : k < q.2.2)
    (hlink : (Cond.fieldLink own index (q.2.1 k).1 (q.2.1 k).2.1 (q.2.1 k).2.2.1).before args s = true) (hfin : (q.2.1 k).2.2.2 = false ∨ ((q.2.1 k).2.2.2 = true ∧ meth.name = "<init>" ∧ (q.2.1 k).1 = own)) (hn : narrow (mtyOf ci k) v = v) (hfit : fits (mtyOf ci k) v = true) (hl : k < fs.length)
    (hat : va_at D mcl (a, .inr (ci, fs)) H) (hdg : decode cc pc = .ok (.putfield index, 3))
    (kk : ∀ (H1 : Heap) (j : Nat), va_at D mcl (a, .inr (ci, fs.set k v)) H1 → H1.size = H.size → (∀ q : Nat, q ≠ a → H1[q]? = H[q]?) → W p l e R s m args below meth c H1 (locs ++ [⟨a, j⟩]) cells slots Q (F0 m (pc + 3) ls rest)) : W p l e R s m args below meth c H locs cells slots Q (F0 m pc ls (v :: .ref a :: rest)) := by
  have hty := (mcl_ty hq).1
  have hap := va_apart (own := own) hts hin (mtyOf ci) hty (mcl_ty hq).2 hK hq
  obtain ⟨r, h1, cell, q1, q2, q3, q4⟩ := hat
  have hr : r = q := Option.some.inj (h1.symm.trans hq)
  subst hr
  obtain ⟨hS, hfc, kC, hkC, hkind⟩ := hK.1 ci _ hq
  obtain ⟨cf, kf, fi, f, hi, hsl⟩ := hS k hk
  have hlay := hts _ (hin _ (u_in_lay hk))
  have hst := (u_facts hfc hkC (u_lays hts hin hk) hi).1
  have fin : ∀ H' : Heap, H'[a]? = some (cell.setSlot f.slot v) → H'.size = H.size → (∀ q, q ≠ a → H'[q]? = H[q]?) → W p l e R s m args below meth c H' (locs ++ [⟨a, f.slot⟩]) cells slots Q (F0 m (pc + 3) ls rest) := by
    intro H' e1 e2 e3
    rw [hsl] at e1
    exact kk H' f.slot ⟨_, hq, t_OB.to (V := updV (vp_V fs) k v) ⟨_, e1, q2, q3, t_set q4 hap hk v⟩ (fun j _ => vp_updV_set hl v j)⟩ e2 e3
  rcases hfin with hfin | ⟨hfin, hin2, hdecl⟩
  · unfold u_lay at hlay
    rw [if_neg (by rw [hfin]; decide)] at hlay
    have h6 := u_store hfc hkC hkind hlay hi (hty k hk) hn hfit
    exact W.putK hx hb (f := f) ⟨hown, hlink, ⟨_, _, _, hi⟩, hst⟩ (by rw [q2]; exact h6) q1 q3 (by rw [hsl]; exact k2_hasslot (q4 k hk)) rfl rfl hdg fin
  · unfold u_lay at hlay
    rw [if_pos hfin] at hlay
    have hcf : m.cls = cf := by
      obtain ⟨_, _, c', _, _, _, -, -, hf', -, -, -, hown2, -⟩ := Cond.laysFinal_spec hlay
      have e1 : c' = cf := by have := hi.symm.trans hf'; simp at this; exact this.1.symm
      rw [hdecl] at hown2
      rw [← e1]; exact Option.some.inj (hown.symm.trans hown2)
    have h6 := u_fits hfc hkC hkind (Or.inr hlay) hi (hty k hk) hn hfit
    exact W.putFinK hx hb hown hlink hi hst hcf hin2 (by rw [q2]; exact h6) q1 q3 (by rw [hsl]; exact k2_hasslot (q4 k hk)) rfl rfl hdg fin
theorem mAt.put {a j : Nat} {e' : mC} {H1 : Heap} (hA : mAt z ca D H0 nL L0 S0 lv h H locs ls cells slots) (he : va_at D mcl (z.1 + a, se z ca e') H1) (hz : H1.size = H.size) (oq : ∀ q : Nat, q ≠ z.1 + a → H1[q]? = H[q]?) : mAt z ca D H0 nL L0 S0 lv (h.1.set a e', h.2) H1 (locs ++ [⟨z.1 + a, j⟩]) ls cells slots :=
  ⟨hA.1.set he hz oq, hA.2.1.put hz oq (Nat.le_add_right _ _), hA.2.2.1, by rw [List.length_set]; exact hA.2.2.2.1, hA.2.2.2.2⟩
theorem mk_putf {own : String} {ci k index : Nat} {q : vw_C} (hs : mputf ci k pc lv st h = some o) (kn : mNext p l e R s m args below meth c Q z ca D H0 nL L0 S0 o) (hA : mAt z ca D H0 nL L0 S0 lv h H locs ls cells slots)
    (hx : p.tables.exec = Jvm.exec) (hb : c.code = cc) (hts : ∀ w ∈ mTB, w.before args s = true) (hin : ∀ w ∈ u_ws q.1 q.2.1 q.2.2, w ∈ mTB) (hown : s.vm.findClass own = some m.cls) (hK : va_K D mcl (mtys ca) s) (hq : mcl[ci]? = some q) (hk : k < q.2.2)
    (hlink : (Cond.fieldLink own index (q.2.1 k).1 (q.2.1 k).2.1 (q.2.1 k).2.2.1).before args s = true) (hfin : (q.2.1 k).2.2.2 = false ∨ ((q.2.1 k).2.2.2 = true ∧ meth.name = "<init>" ∧ (q.2.1 k).1 = own)) (hdg : decode cc pc = .ok (.putfield index, 3)) : W p l e R s m args below meth c H locs cells slots Q (F0 m pc ls (st.map (sv z))) := by
  unfold mputf at hs
  split at hs
  · rename_i v a r
    split at hs
    · rename_i o1 ho
      obtain ⟨c1, fs⟩ := o1
      cases hc : (Nat.beq c1 ci && (mfit (mtyOf ci k) v && Nat.blt k fs.length)) with
      | false => simp only [hc, cond_false] at hs; cases hs
      | true =>
        simp only [hc, cond_true] at hs
        rw [Bool.and_eq_true, Bool.and_eq_true] at hc
        obtain ⟨hc1, hc2, hc3⟩ := hc
        have hc1 := Nat.eq_of_beq_eq_true hc1
        subst hc1
        have hf := mfit_ok z hc2
        refine mk_putW (v := sv z v) (fs := fs.map (sv z)) hx hb hts hin hown hK hq hk hlink hfin hf.1 hf.2 (by rw [List.length_map]; exact Nat.blt_eq.mp hc3) (hA.1.2 a _ ho) hdg (fun H1 j h1 h2 h3 => ?_)
        refine mk_nx hs kn (hA.put ?_ h2 h3)
        show va_at D mcl (z.1 + a, .inr (c1, (fs.set k v).map (sv z))) H1
        rw [List.map_set]
        exact h1
    · cases hs
  · cases hs
end MH
