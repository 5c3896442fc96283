/-! the reference's reckoning, functionally: of its object the field 'at' alone changes -/
def lk (s : List Int32) : Int32 := match s with | [] => 0 | b :: _ => b
/-- s is the end of the text that reaches to E -/
def Sx (T : List Int32) (E : Nat) (s : List Int32) : Prop := s.length ≤ E ∧ ∀ i : Nat, i < s.length → T[E - s.length + i]? = s[i]?
theorem Sx_suf {T : List Int32} {E : Nat} {s s' : List Int32} (h : Sx T E s) (hs : s' <:+ s) : Sx T E s' := by
  obtain ⟨u, rfl⟩ := hs
  obtain ⟨h1, h2⟩ := h
  rw [List.length_append] at h1
  refine ⟨by omega, fun i hi => ?_⟩
  have := h2 (u.length + i) (by rw [List.length_append]; omega)
  rw [List.length_append, List.getElem?_append_right (by omega)] at this
  rw [show E - s'.length + i = E - (u.length + s'.length) + (u.length + i) by omega, this]
  congr 1
  omega
def hX (l : List mC) (s0 : Nat) (fs : List Value) (E : Nat) (s : List Int32) : mS := (l.set 47 (.inr (11, fs.set 28 (.int (Int32.ofNat (E - s.length))))), s0)
/-- what holds of the heap during a reckoning -/
def mvC (l : List mC) (fs : List Value) (T : List Int32) (E : Nat) : Prop := (47 < l.length ∧ 28 < fs.length ∧ E ≤ 360) ∧ fs[25]? = some (.ref 68) ∧ fs[30]? = some (.int (Int32.ofNat E)) ∧ l[68]? = some (.inl (0, .inl T))
theorem ofN {n : Nat} (h : n ≤ 1000) : (Int32.ofNat n).toInt = n := by
  rw [Int32.toInt_ofNat']
  exact bmod_id (by omega) (by omega)
section ME
variable {l : List mC} {s0 : Nat} {fs : List Value} {T : List Int32} {E : Nat}
theorem hX_at (hc : mvC l fs T E) (s : List Int32) : (hX l s0 fs E s).1[47]? = some (.inr (11, fs.set 28 (.int (Int32.ofNat (E - s.length))))) := List.getElem?_set_self hc.1.1
def MV (l : List mC) (s0 : Nat) (fs : List Value) (T : List Int32) (E d y : Nat) (e : List Int32 → PV) (f : List Int32 → Prop) : Prop := ∀ s, Sx T E s → f s → mR d y [.ref 47] (hX l s0 fs E s) (fun r h' => r = some (.int (e s).1) ∧ h' = hX l s0 fs E (e s).2)
set_option maxRecDepth 10000 in
theorem r_lookX (hc : mvC l fs T E) (d : Nat) {s : List Int32} (hs : Sx T E s) : mR (d + 1) 111 [.ref 47] (hX l s0 fs E s) (fun r h' => r = some (.int (lk s)) ∧ h' = hX l s0 fs E s) := by
  have c1 := hX_at (s0 := s0) hc s
  obtain ⟨⟨l47, l28, hE⟩, f25, f30, eT⟩ := id hc
  have g28 : (fs.set 28 (.int (Int32.ofNat (E - s.length))))[28]? = some (.int (Int32.ofNat (E - s.length))) := List.getElem?_set_self l28
  have g30 : (fs.set 28 (.int (Int32.ofNat (E - s.length))))[30]? = some (.int (Int32.ofNat E)) := (List.getElem?_set_ne (by decide)).trans f30
  have g25 : (fs.set 28 (.int (Int32.ofNat (E - s.length))))[25]? = some (.ref 68) := (List.getElem?_set_ne (by decide)).trans f25
  have a1 := ofN (n := E - s.length) (by omega)
  have a2 := ofN (n := E) (by omega)
  have gT : (hX l s0 fs E s).1[68]? = some (.inl (0, .inl T)) := (List.getElem?_set_ne (by decide)).trans eT
  refine mR_ix [(0, .ref 47)] rfl rfl rfl ?_
  refine mE_aldn 1 rfl rfl rfl rfl ?_
  refine mE_gf 4 rfl rfl c1 g28 rfl ?_
  refine mE_aldn 5 rfl rfl rfl rfl ?_
  refine mE_gf 8 rfl rfl c1 g30 rfl ?_
  cases s with
  | nil =>
    refine mE_ic_ge_t 23 rfl (Int32.le_iff_toInt_le.mpr (by rw [a1, a2]; simp)) rfl ?_
    refine mE_ico 24 0 rfl rfl rfl ?_
    exact mE_iret rfl ⟨rfl, rfl, rfl⟩
  | cons b r =>
    have hlen : (b :: r).length = r.length + 1 := rfl
    have hle := hs.1
    refine mE_ic_ge_f 11 rfl (fun q => by have := Int32.le_iff_toInt_le.mp q; rw [a1, a2] at this; omega) rfl ?_
    refine mE_aldn 12 rfl rfl rfl rfl ?_
    refine mE_gf 15 rfl rfl c1 g25 rfl ?_
    refine mE_aldn 16 rfl rfl rfl rfl ?_
    refine mE_gf 19 rfl rfl c1 g28 rfl ?_
    have hv := hs.2 0 (by rw [hlen]; omega)
    rw [Nat.add_zero] at hv
    refine mE_ila 20 rfl gT (nn_of a1) (by rw [nc_of a1]; exact hv) rfl ?_
    refine mE_goto 24 rfl rfl ?_
    exact mE_iret rfl ⟨rfl, rfl, rfl⟩
variable {d nL pc b : Nat} {tab : Nat → Option mI} {P : Option Value → mS → Prop} {lv : mL} {st : List Value} {cal : Nat → List Value → mS → Option (Option Value × mS)}
theorem x_look (hc : mvC l fs T E) {s : List Int32} (hs : Sx T E s) {n q : Nat} (t : tab pc = some (.invokevirtual n, 3, 121, 0, 11, q)) (hst : (Nat.ble st.length 8 && st.all mone) = true) (k : mE (mcall (d + 1)) none nL tab b (pc + 3, lv, .int (lk s) :: st, hX l s0 fs E s) P) : mE (mcall (d + 1)) none nL tab (b + 1) (pc, lv, .ref 47 :: st, hX l s0 fs E s) P := by
  obtain ⟨s1, s2⟩ := mand hst
  refine mE_cv [] st t rfl rfl rfl (hX_at hc s) (by simp only [List.take_zero, List.all_nil, s1, s2]; rfl) ?_
  obtain ⟨r, h', e1, rfl, rfl⟩ := r_lookX (s0 := s0) hc d hs
  exact ⟨_, _, e1, k⟩
theorem x_sub (hc : mvC l fs T E) {s : List Int32} (hs : Sx T E s) {y : Nat} {e : List Int32 → PV} {f : List Int32 → Prop} (hm : MV l s0 fs T E d y e f) (hf : f s) {n q : Nat} (t : tab pc = some (.invokevirtual n, 3, y + 10, 0, 11, q)) (hst : (Nat.ble st.length 8 && st.all mone) = true) (k : mE (mcall d) none nL tab b (pc + 3, lv, .int (e s).1 :: st, hX l s0 fs E (e s).2) P) : mE (mcall d) none nL tab (b + 1) (pc, lv, .ref 47 :: st, hX l s0 fs E s) P := by
  obtain ⟨s1, s2⟩ := mand hst
  refine mE_cv [] st t (by
    cases hb : Nat.blt (y + 10) 10 with
    | true => have := Nat.blt_eq.mp hb; omega
    | false => rfl) rfl rfl (hX_at hc s) (by simp only [List.take_zero, List.all_nil, s1, s2]; rfl) ?_
  obtain ⟨r, h', e1, rfl, rfl⟩ := hm s hs hf
  exact ⟨some (.int (e s).1), hX l s0 fs E (e s).2, by rw [Nat.add_sub_cancel]; exact e1, k⟩
/-- at++ -/
theorem x_at (hc : mvC l fs T E) {c : Int32} {r : List Int32} (hs : Sx T E (c :: r)) {q q' : Nat} (t0 : tab pc = some (.aload_n 0, 1, 0, 0, 0, 0)) (t1 : tab (pc + 1) = some (.dup, 1, 0, 0, 0, 0)) (t2 : tab (pc + 2) = some (.getfield 121, 3, 11, 28, 0, q)) (t3 : tab (pc + 5) = some (.iconst 1, 1, 0, 0, 0, 0)) (t4 : tab (pc + 6) = some (.iadd, 1, 0, 0, 0, 0)) (t5 : tab (pc + 7) = some (.putfield 121, 3, 11, 28, 0, q')) (hl : mget lv 0 = some (.ref 47)) (k : mE cal none nL tab b (pc + 10, lv, st, hX l s0 fs E r) P) : mE cal none nL tab (b + 6) (pc, lv, st, hX l s0 fs E (c :: r)) P := by
  have c1 := hX_at (s0 := s0) hc (c :: r)
  obtain ⟨⟨l47, l28, hE⟩, f25, f30, eT⟩ := id hc
  have hle := hs.1
  have hlen : (c :: r).length = r.length + 1 := rfl
  have e1 : (1 : Int32).toInt = 1 := by decide
  have a1 := ofN (n := E - (c :: r).length) (by omega)
  have hadd : Int32.ofNat (E - (c :: r).length) + 1 = Int32.ofNat (E - r.length) := Int32.toInt_inj.mp (by rw [add_id (by omega) (by omega), a1, e1, ofN (by omega)]; omega)
  refine mE_aldn (pc + 1) t0 hl rfl rfl ?_
  refine mE_dup (pc + 2) t1 rfl rfl ?_
  refine mE_gf (pc + 5) t2 rfl c1 (List.getElem?_set_self l28) rfl ?_
  refine mE_ico (pc + 6) 1 t3 rfl rfl ?_
  refine mE_iadd (pc + 7) (Int32.ofNat (E - r.length)) t4 hadd rfl ?_
  refine mE_pf (pc + 10) t5 c1 ?_ rfl ?_
  · show (true && Nat.blt 28 (fs.set 28 _).length) = true
    rw [List.length_set, Nat.blt_eq.mpr l28]
    rfl
  · show mE cal none nL tab b (pc + 10, lv, st, ((l.set 47 (.inr (11, fs.set 28 (.int (Int32.ofNat (E - (c :: r).length)))))).set 47 (.inr (11, (fs.set 28 (.int (Int32.ofNat (E - (c :: r).length)))).set 28 (.int (Int32.ofNat (E - r.length))))), s0)) P
    rw [List.set_set, List.set_set]
    exact k
end ME
set_option maxRecDepth 10000 in
set_option maxHeartbeats 1000000 in
theorem MV_prod {l : List mC} {s0 : Nat} {fs : List Value} {T : List Int32} {E d : Nat} (hc : mvC l fs T E) {one : List Int32 → PV} {fone : List Int32 → Prop} (h1 : MV l s0 fs T E (d + 1) 118 one fone) : MV l s0 fs T E (d + 2) 117 (eProd one) (fProd one fone) := by
  intro s hs hf
  obtain ⟨⟨f1, f2⟩, f3⟩ := hf
  have key : ∀ (n : Nat) (v : Int32) (t : List Int32), t.length ≤ n → Sx T E t → fLoop opP one fone n t → mE (mcall (d + 1)) none 2 (mgd 36 mtX11_productOf) (20 * n + 20) (5, [(1, .int v), (0, .ref 47)], [], hX l s0 fs E t) (fun r h' => mretok (some .int) r = true ∧ r = some (.int (eLoop opP eApp one n v t).1) ∧ h' = hX l s0 fs E (eLoop opP eApp one n v t).2) := by
    intro n
    induction n with
    | zero =>
      intro v t ht hst hft
      cases t with
      | cons => simp at ht
      | nil =>
        refine mE_aldn 6 rfl rfl rfl rfl ?_
        refine x_look hc hst rfl rfl ?_
        refine mE_bip 11 42 rfl rfl rfl ?_
        refine mE_ic_ne_t 34 rfl (by decide) rfl ?_
        refine mE_ildn 35 rfl rfl rfl rfl ?_
        exact mE_iret rfl ⟨rfl, rfl, rfl⟩
    | succ n ih =>
      intro v t ht hst hft
      rw [show 20 * (n + 1) + 20 = (20 * n + 20) + 20 by omega]
      refine mE_aldn 6 rfl rfl rfl rfl ?_
      refine x_look hc hst rfl rfl ?_
      refine mE_bip 11 42 rfl rfl rfl ?_
      cases t with
      | nil =>
        refine mE_ic_ne_t 34 rfl (by decide) rfl ?_
        refine mE_ildn 35 rfl rfl rfl rfl ?_
        exact mE_iret rfl ⟨rfl, rfl, rfl⟩
      | cons c r =>
        have heq : eLoop opP eApp one (n + 1) v (c :: r) = if opP c = true then eLoop opP eApp one n (eApp c v (one r).1) (one r).2 else (v, c :: r) := rfl
        by_cases hb : c = 42
        · subst hb
          obtain ⟨g1, g2, g3⟩ := hft rfl
          rw [heq, if_pos (show opP 42 = true from rfl)]
          refine mE_ic_ne_f 14 rfl (fun q => q rfl) rfl ?_
          refine x_at hc hst rfl rfl rfl rfl rfl rfl rfl ?_
          refine mE_ildn 25 rfl rfl rfl rfl ?_
          refine mE_aldn 26 rfl rfl rfl rfl ?_
          have hsr : Sx T E r := Sx_suf hst ⟨[42], rfl⟩
          refine x_sub hc hsr h1 g1 rfl rfl ?_
          refine mE_imul 30 (v * (one r).1) rfl rfl rfl ?_
          refine mE_istn 31 [(1, .int (v * (one r).1)), (0, .ref 47)] rfl rfl rfl rfl ?_
          refine mE_goto 5 rfl rfl ?_
          have hl2 := g2.length_le
          exact mE_le (ih (v * (one r).1) (one r).2 (by simp at ht; omega) (Sx_suf hsr g2) g3) (by omega)
        · rw [heq, if_neg (show ¬ opP c = true from fun q => hb (eq_of_beq q))]
          refine mE_ic_ne_t 34 rfl hb rfl ?_
          refine mE_ildn 35 rfl rfl rfl rfl ?_
          exact mE_iret rfl ⟨rfl, rfl, rfl⟩
  refine mR_ix [(0, .ref 47)] rfl rfl rfl ?_
  refine mE_aldn 1 rfl rfl rfl rfl ?_
  refine x_sub hc hs h1 f1 rfl rfl ?_
  refine mE_istn 5 [(1, .int (one s).1), (0, .ref 47)] rfl rfl rfl rfl ?_
  have h360 : (one s).2.length ≤ 360 := Nat.le_trans f2.length_le (Nat.le_trans hs.1 hc.1.2.2)
  exact mE_le (key _ _ _ (Nat.le_refl _) (Sx_suf hs f2) f3) (Nat.le_trans (show 20 * (one s).2.length + 20 ≤ 7220 by omega) (Nat.le_of_ble_eq_true rfl))
