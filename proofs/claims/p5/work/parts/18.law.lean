theorem mTB_sub : ∀ w ∈ mTB, w ∈ lw_tbl := fun w hw => (List.mem_filter.mp hw).1
theorem mnest_mem : ∀ q ∈ mNest, Cond.methodLinkNest q.1 q.2.1 q.2.2 "OpenFields" ∈ lw_tbl := by
  intro q hq
  obtain ⟨i, hi⟩ := List.getElem?_of_mem hq
  have hl : i < mnest_ps.length := (List.getElem?_eq_some_iff.mp hi).1
  have hp : mnest_ps[i]? = some (mnest_ps[i]'hl) := List.getElem?_eq_getElem hl
  have hz : (mNest.zip mnest_ps)[i]? = some (q, mnest_ps[i]'hl) := by rw [List.getElem?_zip_eq_some]; exact ⟨hi, hp⟩
  exact mIn0_mem (List.all_eq_true.mp mnest_in _ (List.mem_of_getElem? hz))
set_option maxHeartbeats 4000000 in
set_option maxRecDepth 100000 in
/-- at the law's entry everything that the pure machine asks of the launch is there -/
theorem mG_start {p : Program} {s : State} {m : MethodId} {meth : Method} {c : Code} {b L : Nat} {xs : Nat → Int32} (C0 : lw_At p s m meth c b L xs) : ∃ (z : mZ) (ca : Nat → ClassId) (D : va_G), z.1 = s.heap.size ∧ z.2.2.1 = b ∧ mG z ca D s := by
  obtain ⟨hx, hb, hr, hml, hown, hts0, hX, hbl, hlocks, hgv⟩ := C0
  have hts : ∀ w ∈ mTB, w.before #[Value.ref b] s = true := fun w hw => hts0 w (mTB_sub w hw)
  have hA : ∀ a : Nat, a < s.heap.size → ¬ (fun q : Nat => s.heap.size ≤ q) a := fun a h1 h2 => absurd h1 (Nat.not_lt.mpr h2)
  have hkn : ∀ k : Nat, ∃ x : ClassId × (Nat → Nat), ∀ q, mcl[k]? = some q → u_Kn s q.1 q.2.1 q.2.2 x.1 x.2 := by
    intro k
    cases hq : mcl[k]? with
    | none => exact ⟨(m.cls, fun _ => 0), fun q h => by cases h⟩
    | some q =>
      obtain ⟨c, iS, hk⟩ := u_known (C := q.1) (T := q.2.1) (N := q.2.2) (n := q.2.2) hts (mcl_in hq).1 (hts _ (mcl_in hq).2.1)
      exact ⟨(c, iS), fun q' h => by cases h; exact hk⟩
  obtain ⟨D, hD⟩ := Classical.axiomOfChoice hkn
  have prim : ∀ ty : FieldType, (Cond.arrayClass ty).before #[Value.ref b] s = true → ∃ cA : ClassId, ArrOfT s cA ty ∧ s.vm.findClass ("[" ++ ty.toString) = some cA := by
    intro ty h
    obtain ⟨cA, k, comp, h1, h2, h3⟩ := Cond.arrayClass_spec h
    exact ⟨cA, fun n z => ⟨fun k h => (by cases h), k, h2, comp, h3⟩, h1⟩
  have refs : ∀ C : String, (Cond.arrayOver (.object C)).before #[Value.ref b] s = true → ∃ cA : ClassId, ArrOfT s cA (.object C) ∧ va_RA s cA (.object C) := by
    intro C h
    obtain ⟨comp, cA, k, h1, h2, h3, h4, h5⟩ := Cond.arrayOver_spec h
    exact ⟨cA, fun n z => ⟨fun k h => (by cases h), k, h3, comp, h4⟩, ⟨k, comp, h3, h4, h1, h5⟩⟩
  obtain ⟨c0, a0, r0⟩ := prim .int (hts _ mf_int)
  obtain ⟨c1, a1, r1⟩ := prim .boolean (hts _ mf_bool)
  obtain ⟨c2, a2, r2⟩ := refs _ (hts0 _ mao_House)
  obtain ⟨c3, a3, r3⟩ := refs _ (hts0 _ mao_Strip)
  obtain ⟨c4, a4, r4⟩ := refs _ (hts0 _ mao_Field)
  obtain ⟨c5, a5, r5⟩ := refs _ (hts0 _ mao_ByLaw)
  have hs := flat_of_before _ hgv
  obtain ⟨adK, adV, hS, hev⟩ := vk_Sof (args := #[Value.ref b]) (s := s) (N := 1) (tm := fun _ => Term.string "OpenFields$Reader" 75) (len := [10]) (byt := [[119, 121, 102, 115, 99, 103, 100, 98, 110, 104]]) (A := fun q : Nat => s.heap.size ≤ q)
    (fun i hi => by rcases (show i = 0 by omega) with rfl; decide)
    (fun i hi => hs _ (by decide +kernel))
    (fun i hi => hs _ (by decide +kernel))
    (fun i hi => hs _ (by decide +kernel))
    (fun i hi => by rcases (show i = 0 by omega) with rfl; exact hs _ (by decide +kernel))
    (fun i hi j hj => by
      rcases (show i = 0 by omega) with rfl
      have hj : j < 10 := hj
      rcases (show j = 0 ∨ j = 1 ∨ j = 2 ∨ j = 3 ∨ j = 4 ∨ j = 5 ∨ j = 6 ∨ j = 7 ∨ j = 8 ∨ j = 9 by omega) with rfl | rfl | rfl | rfl | rfl | rfl | rfl | rfl | rfl | rfl <;> exact hs _ (by decide +kernel))
    (fun i j hi hj hij => by omega) hA
  have hcs := va_Zof (A := fun q : Nat => s.heap.size ≤ q) (hts0 _ mcs_in) (hts0 _ msi_in) (va_eqt (hs (.eq (.static "java/lang/String" "COMPACT_STRINGS" "Z") (.int 1)) (by decide +kernel))) hA
  refine ⟨(s.heap.size, adK 0, b, adV 0), fun t => match t with | 0 => c0 | 1 => c1 | 2 => c2 | 3 => c3 | 4 => c4 | _ => c5, (fun k => (D k).1, fun k => (D k).2), rfl, rfl, ⟨fun k q hq => hD k q hq, fun k q hq => ?_⟩, fun q hq => va_Nw.of rfl (hts0 _ (mnest_mem q hq)), fun C hC => ?_, vk_R.of (hts0 _ mstr_in) (hev 0 (by decide)), ⟨fun i hi => ?_, fun i j hi hj _ => by omega⟩, hcs⟩
  · match k, hq with
    | 0, hq => cases hq; exact ⟨a0, r0⟩
    | 1, hq => cases hq; exact ⟨a1, r1⟩
    | 2, hq => cases hq; exact ⟨a2, r2⟩
    | 3, hq => cases hq; exact ⟨a3, r3⟩
    | 4, hq => cases hq; exact ⟨a4, r4⟩
    | 5, hq => cases hq; exact ⟨a5, r5⟩
  · simp only [mArr, List.mem_cons, List.not_mem_nil, or_false] at hC
    rcases hC with rfl | rfl | rfl | rfl
    · exact va_AO.of (hts0 _ mao_House)
    · exact va_AO.of (hts0 _ mao_Strip)
    · exact va_AO.of (hts0 _ mao_Field)
    · exact va_AO.of (hts0 _ mao_ByLaw)
  · rcases (show i = 0 by omega) with rfl
    exact hS.1 0 (by decide)
set_option maxHeartbeats 4000000 in
set_option maxRecDepth 100000 in
/-- the law's walk out of its pure run -/
theorem mlaw_ok {p : Program} {e : Env} {s : State} {m : MethodId} {below : List Frame} {meth : Method} {c : Code} (l : Launch) {b L : Nat} {xs : Nat → Int32} (C0 : lw_At p s m meth c b L xs) (hMs : ∀ y M, mmOf y = some M → mMok y M)
    (htab : ∀ (pc : Nat) (x : mI), mgd mLlaw mtL_law pc = some x → decode code pc = .ok (x.1, x.2.1) ∧ mok RL "law" pc x = true) {d n : Nat} {h' : mS} (hd : d ≤ 1000) (hrun : mloop (mcall d) (some (L, xs)) 4 (mgd mLlaw mtL_law) n 0 [(0, .retAddr 1)] [] ([], 0) = some (some (.int 1), h')) (h1 : h'.1.length ≤ 600000) (h2 : h'.2 ≤ 7302250) :
    W p l e room_1 s m #[Value.ref b] below meth c s.heap [] 0 0 (lw_Z below #[Value.ref b] s) (entryFrame m ([Value.ref b] : List Value).toArray 4) := by
  obtain ⟨z, ca, D, hz1, hz2, hG⟩ := mG_start C0
  obtain ⟨hx, hb, hr, hml, hown, hts0, hX, hbl, hlocks, hgv⟩ := C0
  have hts : ∀ w ∈ mTB, w.before #[Value.ref b] s = true := fun w hw => hts0 w (mTB_sub w hw)
  have hls := lv_entry ([.ref b]) (n := 4) (Nat.le_of_ble_eq_true rfl)
  rw [lg_entry_eq]
  refine mloop_ok (R := room_1) (L0 := 0) (S0 := 0) (own := RL) (name := "law") (z := z) (ca := ca) (D := D) (scr := some (L, xs)) (mcall_ok hMs d) hMs htab ⟨hx, hb, hml, hts, hown, hG, fun hn => absurd hn (by decide), by decide, by decide, by rw [hz1]; exact Nat.le_refl _⟩ (fun q hq => by cases hq; rw [hz2]; exact ⟨hX, hbl, by rw [hz1]; exact Nat.not_le.mpr hbl⟩) (by show d + 7 ≤ 2048; omega) (by show 60 * d + 360 ≤ 84000; omega) (by show _ ≤ 0 + 600000; omega) (by show _ ≤ 0 + 7302250; omega) (fun pc x st H locs ls cells slots hd hr hP' hS e1 e2 => ?_) n 0 _ [] _ hrun _ _ _ _ _ ⟨⟨by rw [hz1]; rfl, fun k e h => by cases h⟩, va_S.rf, ?_, rfl, rfl⟩
  · obtain ⟨i, len, rst⟩ := x
    obtain ⟨hlen, hr⟩ := hr
    have hlen : len = 1 := hlen
    subst hlen
    rcases hr with ⟨e3, v, rfl, hv⟩ | ⟨e3, v, rfl, hv, hv2⟩ | ⟨e3, rfl, hv⟩
    · cases hv
      have e3 : i = .ireturn := e3
      subst e3
      refine va_forget (fun q hq => by rw [← hz1]; exact hS.2.2 q hq) ?_
      refine W.widen (k := 600000) (n := 7302250) (by omega) (by omega) ?_
      exact lw_ret hx hb hr hlocks hd
    · rcases hv2 with rfl | ⟨k, rfl⟩ <;> cases hv
    · cases hv
  · show lv_has _ 4 [(0, .ref z.2.2.1)]
    rw [hz2]
    exact hls
