section MW
variable {p : Program} {l : Launch} {e : Env} {R : Room} {s : State} {m : MethodId} {args : Array Value} {below : List Frame} {meth : Method} {c : Code} {H : Heap} {locs : List Loc} {cells slots : Nat} {Q : State → Prop}
variable {cc : ByteArray} {pc : Nat} {ls : Array Slot} {z : mZ} {ca : Nat → ClassId} {D : va_G} {nL L0 S0 : Nat} {lv : mL} {st : List Value} {h : mS}
theorem mk_recv {k : Nat} {o1 : Nat × List Value} {q : vw_C} (hK : va_K D mcl (mtys ca) s) (hA : mAt z ca D s.heap nL L0 S0 lv h H locs ls cells slots) (ho : h.1[k]? = some (.inr o1)) (hq : mcl[o1.1]? = some q) : ∃ cell : Cell, H[z.1 + k]? = some cell ∧ cell.vm.isStatics = false ∧ s.vm.findClass q.1 = some cell.cls :=
  va_recv hK (hA.1.one ho) hq (q0 := 0) rfl
set_option maxHeartbeats 4000000 in
set_option maxRecDepth 100000 in
/-- a call: the row of the instruction out of the callee's pure run -/
theorem mk_call {scr : Option (Nat × (Nat → Int32))} {len : Nat} {own name : String} {d y : Nat} {as rest : List Value} {r : Option Value} {h' : mS} {M : mM} {i : Instr} {a b c3 dd : Nat} (hs : mstep scr nL pc lv st h (i, len, a, b, c3, dd) = some (.inr (.inr (y, as, rest)))) (hd : decode cc pc = .ok (i, len)) (hk : mok own name pc (i, len, a, b, c3, dd) = true)
    (hA : mAt z ca D s.heap nL L0 S0 lv h H locs ls cells slots) (hC : mCx p R s m args meth c z ca D cc nL own name) (hM : mmOf y = some M) (hMo : mMok y M) (hmet : mMet l z ca D d M as h r h') (hm : h.1.length ≤ h'.1.length ∧ h.2 ≤ h'.2) (hfr : d + 7 ≤ R.frames) (hlo : 60 * d + 360 ≤ R.locals) (hfc : h'.1.length ≤ L0 + R.cells) (hfs : h'.2 ≤ S0 + R.slots) (hi : ∃ idx, i = .invokevirtual idx ∨ i = .invokespecial idx ∨ i = .invokestatic idx)
    (kk : ∀ (H' : Heap) (locs' : List Loc) (cells' slots' : Nat), mAt z ca D s.heap nL L0 S0 lv h' H' locs' ls cells' slots' → W p l e R s m args below meth c H' locs' cells' slots' Q (F0 m (pc + 3) ls ((r.toList ++ rest).map (sv z)))) : W p l e R s m args below meth c H locs cells slots Q (F0 m pc ls (st.map (sv z))) := by
  obtain ⟨hx, hb, hml, hts, hown, hG, hnm, hfr0, hlo0, hz0⟩ := id hC
  obtain ⟨m1, m2, m3, m4, m5, ⟨m6, m7, m8⟩, m9, m10, m12, m11⟩ := id hMo
  have hf : cells + (h'.1.length - h.1.length) ≤ R.cells ∧ slots + (h'.2 - h.2) ≤ R.slots := by
    have := hA.2.2.2.1
    have := hA.2.2.2.2
    omega
  have hsz : ls.size = nL := hA.2.2.1.1
  have hg : ∀ v : Option Value, ({ F0 m pc ls (st.map (sv z)) with pc := (F0 m pc ls (st.map (sv z))).pc + 3, stack := (v.map (sv z)).toList ++ rest.map (sv z) } : JFrame) = F0 m (pc + 3) ls ((v.toList ++ rest).map (sv z)) := by
    intro v
    cases v <;> rfl
  have hcb : ∀ (index n : Nat), Cond.methodLink own index M.1 ∈ mTB → M.2.2.2.2.2.2.1 = n → CallB R s args own index M.1 M.2.1 M.2.2.1 M.2.2.2.1 (mws M) (mroom d (h'.1.length - h.1.length) (h'.2 - h.2)) (h'.1.length - h.1.length) (h'.2 - h.2) n := by
    intro index n hl hn
    exact callB_of n hts (mws_good m1) rfl rfl rfl (hts _ m2) (hts _ hl) ⟨m6, m7, by rw [← hn]; exact m8⟩ ⟨by show d + 6 + 1 ≤ _; omega, by show 8 + (M.2.2.1 + 11) + (60 * d + 300) ≤ _; omega⟩
  obtain ⟨idx, rfl | rfl | rfl⟩ := hi
  ·
    obtain ⟨hl, hk2⟩ := mand hk
    clear hk
    cases mlen hl
    cases ha : Nat.blt a 10 with
    | true =>
      simp only [mstep, ha, cond_true] at hs
      exfalso
      unfold mspec at hs
      simp only [cond_eq_ite, mnx, mcpy] at hs
      repeat' (split at hs)
      all_goals cases hs
    | false =>
      simp only [ha, cond_false] at hk2
      simp only [mstep, ha, cond_false] at hs
      obtain ⟨rfl, hb1, hr8, hrm, hcase⟩ := minv_inv hs
      rw [hM] at hk2
      obtain ⟨k1, hk2⟩ := mand hk2
      obtain ⟨k2, hk2⟩ := mand hk2
      obtain ⟨k3, hk2⟩ := mand hk2
      obtain ⟨k4, hk2⟩ := mand hk2
      obtain ⟨k5, k6⟩ := mand hk2
      have k5 := mlen k5
      have k6 := of_decide_eq_true k6
      rcases hcase with ⟨-, k, o1, e1, e2, ho, ho1⟩ | ⟨hh, -⟩ | ⟨-, e1, e2, hc50⟩
      · subst e2
        have hc3 : o1.1 = M.2.2.2.2.2.1 := by rw [ho1]; unfold mcl100; rw [k4]; exact mlen k3
        have hlt50 : M.2.2.2.2.2.1 < 50 := by
          have h5 := hA.1.2 k _ ho
          obtain ⟨r9, hr9, -⟩ := h5
          have h6 : mcl[o1.1]? = some r9 := hr9
          have := mcl_lt h6
          omega
        obtain ⟨q, hq, hq1⟩ := Option.map_eq_some_iff.mp (m10.2 hlt50)
        rw [← hc3] at hq
        have hrv := mk_recv hG.1 hA ho hq
        rw [hq1] at hrv
        have hsel := (m4 k5).2.resolve_left k6
        refine mk_back (r := r) (rest := rest) (as := (Value.ref k :: (st.take b).reverse).map (sv z)) (ls := ls) (pc := pc) hA hm hz0 (va_runV (As := ((st.take b).reverse).map (sv z)) (rest := rest.map (sv z)) ⟨hx, hb, hml, hown, hts⟩ hmet ⟨hcb idx b (mIn_mem k1) (mlen k2).symm, hts _ (m4 k5).1, hts _ hsel⟩ ⟨mJ_blind z ca D h _, hrv, mk_pre (as := Value.ref k :: (st.take b).reverse) hC hA⟩ rfl (by simp; omega) hsz ?_ (lv_room (msum8 (z := z) hr8 hrm)) hd hf) (hg r) kk
        have h9 := congrArg (List.map (sv z)) e1
        rw [List.map_append, List.map_cons] at h9
        show st.map (sv z) = _
        rw [List.map_reverse, List.reverse_reverse]
        exact h9
      · exact absurd (by decide) hh
      · subst e2
        have hc3 : M.2.2.2.2.2.1 = 50 := by rw [← hc50]; unfold mcl100; rw [k4]; exact (mlen k3).symm
        have hrv := vk_recv (i := 0) hG.2.2.2.2.1 (by decide) hA.2.1
        rw [← m10.1 hc3] at hrv
        have hsel := (m4 k5).2.resolve_left k6
        refine mk_back (r := r) (rest := rest) (as := (Value.retAddr 0 :: (st.take b).reverse).map (sv z)) (ls := ls) (pc := pc) hA hm hz0 (va_runV (As := ((st.take b).reverse).map (sv z)) (rest := rest.map (sv z)) ⟨hx, hb, hml, hown, hts⟩ hmet ⟨hcb idx b (mIn_mem k1) (mlen k2).symm, hts _ (m4 k5).1, hts _ hsel⟩ ⟨mJ_blind z ca D h _, hrv, mk_pre (as := Value.retAddr 0 :: (st.take b).reverse) hC hA⟩ rfl (by simp; omega) hsz ?_ (lv_room (msum8 (z := z) hr8 hrm)) hd hf) (hg r) kk
        have h9 := congrArg (List.map (sv z)) e1
        rw [List.map_append, List.map_cons] at h9
        show st.map (sv z) = _
        rw [List.map_reverse, List.reverse_reverse]
        exact h9
  ·
    obtain ⟨hl, hk2⟩ := mand hk
    clear hk
    cases mlen hl
    cases ha : Nat.blt a 10 with
    | true =>
      simp only [mstep, ha, cond_true] at hs
      exfalso
      unfold mspec at hs
      simp only [cond_eq_ite, mnx, mcpy] at hs
      repeat' (split at hs)
      all_goals cases hs
    | false =>
      simp only [ha, cond_false] at hk2
      simp only [mstep, ha, cond_false] at hs
      obtain ⟨rfl, hb1, hr8, hrm, hcase⟩ := minv_inv hs
      rw [hM] at hk2
      obtain ⟨k1, hk2⟩ := mand hk2
      obtain ⟨k2, hk2⟩ := mand hk2
      obtain ⟨k2, k3⟩ := mand k2
      obtain ⟨k4, hk2⟩ := mand hk2
      obtain ⟨k9, k5⟩ := mand hk2
      have k2 := mlen k2
      have k3 := of_decide_eq_true k3
      have hret : M.2.2.2.1 = none := m12 k3
      rcases hcase with ⟨-, k, o1, e1, e2, ho, ho1⟩ | ⟨hh, -⟩ | ⟨-, e1, e2, hc50⟩
      rotate_left 2
      · exfalso
        rw [hc50] at k9
        cases k9
      · subst e2
        have hstk : st.map (sv z) = (((st.take b).reverse).map (sv z)).reverse ++ .ref (z.1 + k) :: rest.map (sv z) := by
          have h9 := congrArg (List.map (sv z)) e1
          rw [List.map_append, List.map_cons] at h9
          rw [List.map_reverse, List.reverse_reverse]
          exact h9
        have hln : (((st.take b).reverse).map (sv z)).length = b := by simp; omega
        cases hn : Nat.blt c3 100 with
        | true =>
          simp only [hn, cond_true] at k5
          have hcb2 := hcb idx b (mIn_mem k5) (mlen k1).symm
          rw [hret] at hcb2
          exact mk_back (r := r) (rest := rest) (as := (Value.ref k :: (st.take b).reverse).map (sv z)) (ls := ls) (pc := pc) hA hm hz0 (va_runI (As := ((st.take b).reverse).map (sv z)) (rest := rest.map (sv z)) ⟨hx, hb, hml, hown, hts⟩ hmet ⟨hcb2, k3, hts _ (m4 k2).1⟩ ⟨mJ_blind z ca D h _, mk_pre (as := Value.ref k :: (st.take b).reverse) hC hA⟩ rfl hln hsz hstk (lv_room (msum8 (z := z) hr8 hrm)) hd hf) (hg r) kk
        | false =>
          simp only [hn, cond_false] at k5
          have hn := hG.2.1 _ (of_decide_eq_true k5)
          have hcn := va_cnB (own := own) (host := "OpenFields") (index := idx) (maxL := M.2.2.1) (bytes := M.2.1) (ret := M.2.2.2.1) (R := R) (rm := mroom d (h'.1.length - h.1.length) (h'.2 - h.2)) (mc := h'.1.length - h.1.length) (ms := h'.2 - h.2) b hts (mws_good m1) rfl rfl rfl hn (hts _ m2) ⟨m6, m7, by rw [mlen k1]; exact m8⟩ ⟨by show d + 6 + 1 ≤ _; omega, by show 8 + (M.2.2.1 + 11) + (60 * d + 300) ≤ _; omega⟩
          rw [hret] at hcn
          exact mk_back (r := r) (rest := rest) (as := (Value.ref k :: (st.take b).reverse).map (sv z)) (ls := ls) (pc := pc) hA hm hz0 (va_runIN (As := ((st.take b).reverse).map (sv z)) (rest := rest.map (sv z)) ⟨hx, hb, hml, hown, hts⟩ hmet ⟨hcn, k3, hts _ (m4 k2).1⟩ ⟨mJ_blind z ca D h _, mk_pre (as := Value.ref k :: (st.take b).reverse) hC hA⟩ rfl hln hsz hstk (lv_room (msum8 (z := z) hr8 hrm)) hd hf) (hg r) kk
      · exact absurd (by decide) hh
  ·
    obtain ⟨hl, hk2⟩ := mand hk
    clear hk
    cases mlen hl
    cases ha : Nat.blt a 10 with
    | true =>
      simp only [mstep, ha, cond_true] at hs
      exfalso
      unfold mspec at hs
      simp only [cond_eq_ite, mnx, mcpy] at hs
      repeat' (split at hs)
      all_goals cases hs
    | false =>
      simp only [ha, cond_false] at hk2
      simp only [mstep, ha, cond_false] at hs
      obtain ⟨rfl, hb1, hr8, hrm, hcase⟩ := minv_inv hs
      rw [hM] at hk2
      obtain ⟨k1, hk2⟩ := mand hk2
      obtain ⟨k2, hk2⟩ := mand hk2
      have k3 := mlen hk2
      rcases hcase with ⟨hh, -⟩ | ⟨-, e1, e2⟩ | ⟨hh, -⟩
      · exact absurd hh (by decide)
      rotate_left
      · exact absurd hh (by decide)
      · subst e2
        have hstk : st.map (sv z) = (((st.take b).reverse).map (sv z)).reverse ++ rest.map (sv z) := by
          have h9 := congrArg (List.map (sv z)) e1
          rw [List.map_append] at h9
          rw [List.map_reverse, List.reverse_reverse]
          exact h9
        exact mk_back (r := r) (rest := rest) (as := ((st.take b).reverse).map (sv z)) (ls := ls) (pc := pc) hA hm hz0 (va_runS (As := ((st.take b).reverse).map (sv z)) (rest := rest.map (sv z)) ⟨hx, hb, hml, hown, hts⟩ hmet ⟨hcb idx b (mIn_mem k1) (mlen k2).symm, hts _ (m3 k3)⟩ ⟨mJ_blind z ca D h _, mk_pre (as := (st.take b).reverse) hC hA⟩ rfl (by simp; omega) hsz hstk (lv_room (msum8 (z := z) hr8 hrm)) hd hf) (hg r) kk
end MW
