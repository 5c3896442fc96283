theorem margs_map (z : mZ) (vs : List Value) : ∀ n, (lv_args n vs).map (ml z) = lv_args n (vs.map (sv z)) := by
  induction vs with
  | nil => intro n; rfl
  | cons v t ih =>
    intro n
    simp only [lv_args, List.map_cons, sv_cat, ih]
    rfl
theorem msl_len {vs : List Value} (h : vs.all mone = true) : (lg_sl vs).length = vs.length := by
  induction vs with
  | nil => rfl
  | cons v t ih =>
    rw [List.all_cons, Bool.and_eq_true] at h
    have hc : v.category = 1 := by rw [← sv_cat (0, 0, 0, 0)]; exact mone_cat _ h.1
    have e : lg_sl (v :: t) = (if v.category = 2 then [Slot.val v, Slot.second] else [Slot.val v]) ++ lg_sl t := by simp [lg_sl]
    rw [e, if_neg (by omega), List.length_append, ih h.2]
    simp; omega
theorem mone_sv (z : mZ) {vs : List Value} (h : vs.all mone = true) : (vs.map (sv z)).all mone = true := by
  rw [List.all_eq_true] at h ⊢
  intro v hv
  obtain ⟨w, hw, rfl⟩ := List.mem_map.mp hv
  have := h w hw
  cases w with
  | retAddr n => rcases n with _ | _ | n <;> rfl
  | int x => rfl
  | ref x => rfl
  | null => rfl
  | _ => cases this
section ML
variable {p : Program} {l : Launch} {e : Env} {R : Room} {s : State} {m : MethodId} {args : Array Value} {below : List Frame} {meth : Method} {c : Code} {Q : State → Prop}
variable {cc : ByteArray} {z : mZ} {ca : Nat → ClassId} {D : va_G} {nL L0 S0 : Nat}
theorem mloop_ok {own name : String} {d : Nat} {cal : Nat → List Value → mS → Option (Option Value × mS)} {scr : Option (Nat × (Nat → Int32))} {tab : Nat → Option mI} {r : Option Value} {h' : mS} (hcal : mCal l z ca D d cal) (hMs : ∀ y M, mmOf y = some M → mMok y M)
    (htab : ∀ (pc : Nat) (x : mI), tab pc = some x → decode cc pc = .ok (x.1, x.2.1) ∧ mok own name pc x = true) (hC : mCx p R s m args meth c z ca D cc nL own name) (hX : ∀ q, scr = some q → va_X z.2.2.1 q.1 q.2 s s.heap ∧ z.2.2.1 < s.heap.size ∧ ¬ z.1 ≤ z.2.2.1)
    (hfr : d + 7 ≤ R.frames) (hlo : 60 * d + 360 ≤ R.locals) (hfc : h'.1.length ≤ L0 + R.cells) (hfs : h'.2 ≤ S0 + R.slots)
    (hret : ∀ (pc : Nat) (x : mI) (st : List Value) (H : Heap) (locs : List Loc) (ls : Array Slot) (cells slots : Nat), decode cc pc = .ok (x.1, x.2.1) → mRet x st r → mP z ca D h'.1 H → va_S (fun q => z.1 ≤ q) s.heap H locs → h'.1.length = L0 + cells → h'.2 = S0 + slots → W p l e R s m args below meth c H locs cells slots Q (F0 m pc ls (st.map (sv z)))) :
    ∀ (n pc : Nat) (lv : mL) (st : List Value) (h : mS), mloop cal scr nL tab n pc lv st h = some (r, h') → ∀ (H : Heap) (locs : List Loc) (ls : Array Slot) (cells slots : Nat), mAt z ca D s.heap nL L0 S0 lv h H locs ls cells slots → W p l e R s m args below meth c H locs cells slots Q (F0 m pc ls (st.map (sv z))) := by
  intro n
  induction n with
  | zero => intro pc lv st h hs; cases hs
  | succ n ih =>
    intro pc lv st h hs H locs ls cells slots hA
    have hmo := mloop_mono hcal.1 _ _ _ _ _ _ _ hs
    unfold mloop at hs
    split at hs
    · cases hs
    · rename_i x hx
      obtain ⟨hd, hk⟩ := htab pc x hx
      have hce : cells ≤ R.cells := by have := hA.2.2.2.1; omega
      have hsl : slots ≤ R.slots := by have := hA.2.2.2.2; omega
      split at hs
      · cases hs
      · rename_i pc' lv' st' h1 hst
        have hm1 := mloop_mono hcal.1 _ _ _ _ _ _ _ hs
        refine mstep_ok hst hd hk hA (fun p1 l1 s1 h2 e => ?_) hce hsl hC hX (fun p1 l1 s1 h2 e H' locs' ls' c' s' hA' => ?_) (fun r1 e => ?_) (fun q e => ?_)
        · cases e; exact ⟨Nat.le_trans hm1.1 hfc, Nat.le_trans hm1.2 hfs⟩
        · cases e; exact ih _ _ _ _ hs _ _ _ _ _ hA'
        · cases e
        · cases e
      · rename_i r1 hst
        cases hs
        refine mstep_ok hst hd hk hA (fun p1 l1 s1 h2 e => ?_) hce hsl hC hX (fun p1 l1 s1 h2 e => ?_) (fun r1 e hr => ?_) (fun q e => ?_)
        · cases e
        · cases e
        · cases e; exact hret pc x st H locs ls cells slots hd hr hA.1 hA.2.1 hA.2.2.2.1 hA.2.2.2.2
        · cases e
      · rename_i y as rest hst
        split at hs
        · cases hs
        · rename_i r1 h1 hc1
          have hm1 := mloop_mono hcal.1 _ _ _ _ _ _ _ hs
          refine mstep_ok hst hd hk hA (fun p1 l1 s1 h2 e => ?_) hce hsl hC hX (fun p1 l1 s1 h2 e => ?_) (fun r1 e hr => ?_) (fun q e hi => ?_)
          · cases e
          · cases e
          · cases e
          · obtain ⟨i, len, a, b, c3, dd⟩ := x
            obtain ⟨M, hM, hmt⟩ := hcal.2 y as h r1 h1 hc1
            exact mk_call hst hd hk hA hC hM (hMs y M hM) hmt (hcal.1 _ _ _ _ _ hc1) hfr hlo (Nat.le_trans hm1.1 hfc) (Nat.le_trans hm1.2 hfs) hi (fun H' locs' c' s' hA' => ih _ _ _ _ hs _ _ _ _ _ hA')
end ML
theorem mcall_ok {l : Launch} {z : mZ} {ca : Nat → ClassId} {D : va_G} (hMs : ∀ y M, mmOf y = some M → mMok y M) : ∀ d, mCal l z ca D d (mcall d) := by
  intro d
  induction d with
  | zero => exact ⟨mcall_mono 0, fun y as h r h' hs => by cases hs⟩
  | succ d ih =>
    refine ⟨mcall_mono (d + 1), fun y as h r h' hs => ?_⟩
    have hmono := mcall_mono (d + 1) y as h r h' hs
    unfold mcall at hs
    cases hM : mmOf y with
    | none => rw [hM] at hs; cases hs
    | some M =>
      rw [hM] at hs
      refine ⟨M, rfl, ?_⟩
      cases hc : (Nat.ble as.length M.2.2.1 && as.all mone) with
      | false => simp only [hc, cond_false] at hs; cases hs
      | true =>
        simp only [hc, cond_true] at hs
        obtain ⟨hc1, hc2⟩ := mand hc
        split at hs
        · rename_i r1 h1 hl
          cases hmr : mretok M.2.2.2.1 r1 with
          | false => simp only [hmr, cond_false] at hs; cases hs
          | true =>
            simp only [hmr, cond_true] at hs
            cases hs
            obtain ⟨m1, m2, m3, m4, m5, m6, m9, m10, m12, m11⟩ := hMs y M hM
            refine Met.ofW (cc := M.2.1) (maxL := M.2.2.1) (ret := M.2.2.2.1) m5 rfl ?_
            intro p e s m args below meth c s₁ B hml hv
            obtain ⟨rfl, hP, hG⟩ := hv
            have hts : ∀ w ∈ mTB, w.before ((as.map (sv z)).toArray) s = true := fun w hw => atoms_spec (ws := mws M) B.pre w (List.mem_cons_of_mem _ hw)
            have hown : s.vm.findClass M.1.cls = some m.cls := findClass_of_methodNamed B.named
            have hlocks := B.notSynchronized
            have hz0 : z.1 ≤ s.heap.size := by rw [hP.1]; omega
            have hrets := B.returns
            have hls := lv_entry (as.map (sv z)) (n := M.2.2.1) (by rw [msl_len (mone_sv z hc2), List.length_map]; exact Nat.le_of_ble_eq_true hc1)
            rw [lg_entry_eq]
            refine mloop_ok (R := mroom (d + 1) (h'.1.length - h.1.length) (h'.2 - h.2)) (L0 := h.1.length) (S0 := h.2) (scr := none) (own := M.1.cls) (name := M.1.name) ih hMs m11 ⟨B.exec, B.bytes, hml, hts, hown, hG, fun hn => ?_, by show 6 ≤ d + 1 + 6; omega, by show 300 ≤ 60 * (d + 1) + 300; omega, hz0⟩ (fun q hq => by cases hq) (by show d + 7 ≤ d + 1 + 6; omega) (by show 60 * d + 360 ≤ 60 * (d + 1) + 300; omega) (by show _ ≤ h.1.length + (h'.1.length - h.1.length); omega) (by show _ ≤ h.2 + (h'.2 - h.2); omega) (fun pc x st H locs ls cells slots hd hr hP' hS e1 e2 => ?_) _ _ _ _ _ hl _ _ _ _ _ ⟨hP, va_S.rf, by rw [margs_map]; exact hls, rfl, rfl⟩
            · rw [(name_of_methodNamed B.named B.method).1]; exact hn
            · have hcc : cells = h'.1.length - h.1.length := by omega
              have hss : slots = h'.2 - h.2 := by omega
              subst hcc; subst hss
              obtain ⟨i, len, rst⟩ := x
              obtain ⟨hlen, hr⟩ := hr
              have hlen : len = 1 := hlen
              subst hlen
              have hq : ∀ t : State, t.heap = H → s.WarmedH t.vm → mQ z ca D r h' ((as.map (sv z)).toArray) s (.returned (r.map (sv z))) t := fun t ht hW => ⟨rfl, by rw [ht]; exact hP', fun q hq => by rw [ht]; exact hS.2.1 q (Nat.lt_of_lt_of_le hq hz0) (Nat.not_le.mpr hq)⟩
              rcases hr with ⟨e3, v, rfl, rfl⟩ | ⟨e3, v, rfl, rfl, hv⟩ | ⟨e3, rfl, rfl⟩
              · have e3 : i = .ireturn := e3
                subst e3
                revert hmr hrets
                cases M.2.2.2.1 with
                | none => intro hrets hmr; cases hmr
                | some ty =>
                  intro hrets hmr
                  have hn : narrow ty (.int v) = .int v := by
                    cases ty with
                    | int => rfl
                    | boolean =>
                      have h9 : (v == 0 || v == 1) = true := hmr
                      rw [Bool.or_eq_true, beq_iff_eq, beq_iff_eq] at h9
                      rcases h9 with rfl | rfl <;> decide +kernel
                    | byte =>
                      have h9 : (v == 0 || v == 1) = true := hmr
                      rw [Bool.or_eq_true, beq_iff_eq, beq_iff_eq] at h9
                      rcases h9 with rfl | rfl <;> decide +kernel
                    | _ => cases hmr
                  exact W.zret B.exec B.bytes hrets hn hq hS.2.2 hd
              · have e3 : i = .areturn := e3
                subst e3
                revert hmr hrets
                cases M.2.2.2.1 with
                | none => intro hrets hmr; cases hmr
                | some ty =>
                  intro hrets hmr
                  have hty : ∃ n, ty = .object n := by
                    cases ty with
                    | object n => exact ⟨n, rfl⟩
                    | _ => rcases hv with rfl | ⟨k, rfl⟩ <;> cases hmr
                  exact W.aret B.exec B.bytes hrets (Or.inl hty) (by rcases hv with rfl | ⟨k, rfl⟩; exact Or.inl rfl; exact Or.inr ⟨_, rfl⟩) hq hS.2.2 hd
              · have e3 : i = .return_ := e3
                subst e3
                revert hmr hrets
                cases M.2.2.2.1 with
                | some ty => intro hrets hmr; cases ty <;> cases hmr
                | none =>
                  intro hrets hmr
                  exact W.vret B.exec B.bytes hrets hq hS.2.2 hd
        · cases hs
