/-! the reference's reckoning of a text: each part eats a byte or ends -/
def PQ (g : Nat → Int) (ρ : List Nat) (m : Nat) (h : mS) (a e : Int32) : Prop := okH rI0 g ρ h.1 ∧ ρ[m]? = some 30 ∧ ∃ fs : List Value, h.1[m]? = some (.inr (11, fs)) ∧ fs[28]? = some (.int a) ∧ fs[30]? = some (.int e)
def pu (a e : Int) : Int := if a ≤ e then 2 * e - a + 1 else a + 1
def PC (d y n : Nat) : Prop := ∀ (g : Nat → Int) (ρ : List Nat) (m : Nat) (h : mS) (a e : Int32), okG aBl g → PQ g ρ m h a e → 0 ≤ a.toInt → a.toInt ≤ 300 → e.toInt ≤ 300 → e.toInt - a.toInt ≤ n →
  ∃ (v : Int32) (h' : mS) (a' : Int32), mcall d y [.ref m] h = some (some (.int v), h') ∧ PQ g ρ m h' a' e ∧ okFr ρ [30] h h' ∧ a.toInt < a'.toInt ∧ a'.toInt ≤ pu a.toInt e.toInt
theorem okFr.trans {ρ md : List Nat} {h1 h2 h3 : mS} (a : okFr ρ md h1 h2) (b : okFr ρ md h2 h3) : okFr ρ md h1 h3 := ⟨fun k r x y => by rw [b.1 k r x y, a.1 k r x y], by rw [b.2.1, a.2.1], by
  rcases a.2.2 with z | z
  · exact Or.inl z
  · exact b.2.2.imp (fun y => y) (fun y => z.trans y)⟩
def rM : List aV := match rI0 30 with | some (.inl q) => q.2 | _ => []
theorem rM_eq : rI0 30 = some (.inl (11, rM)) := rfl
section PA
variable {g : Nat → Int} {ρ : List Nat} {m d nL : Nat} {h : mS} {a e : Int32} {tab : Nat → Option mI} {P : Option Value → mS → Prop} {pc b : Nat} {lv : mL} {st : List Value} {cal : Nat → List Value → mS → Option (Option Value × mS)}
theorem PQ.put (hq : PQ g ρ m h a e) {a' : Int32} (h0 : 0 ≤ a'.toInt) (h1 : a'.toInt ≤ 1000) {fs : List Value} (hc : h.1[m]? = some (.inr (11, fs))) : PQ g ρ m (h.1.set m (.inr (11, fs.set 28 (.int a'))), h.2) a' e ∧ okFr ρ [30] h (h.1.set m (.inr (11, fs.set 28 (.int a'))), h.2) := by
  obtain ⟨hH, hm, fs', c1, c2, c3⟩ := hq
  rw [hc] at c1
  cases c1
  have hl : m < h.1.length := (List.getElem?_eq_some_iff.mp hc).1
  have hj : 28 < fs.length := (List.getElem?_eq_some_iff.mp c2).1
  refine ⟨⟨hH.put hm rM_eq (j := 28) (t := (0, 0, 1000)) rfl hc ⟨a', rfl, h0, h1⟩, hm, fs.set 28 (.int a'), List.getElem?_set_self hl, List.getElem?_set_self hj, ?_⟩, okFr.set okFr.rfl hm List.mem_cons_self⟩
  rw [List.getElem?_set_ne (by omega)]
  exact c3
/-- at++ -/
theorem p_at {q q' : Nat} (t0 : tab pc = some (.aload_n 0, 1, 0, 0, 0, 0)) (t1 : tab (pc + 1) = some (.dup, 1, 0, 0, 0, 0)) (t2 : tab (pc + 2) = some (.getfield 121, 3, 11, 28, 0, q)) (t3 : tab (pc + 5) = some (.iconst 1, 1, 0, 0, 0, 0)) (t4 : tab (pc + 6) = some (.iadd, 1, 0, 0, 0, 0)) (t5 : tab (pc + 7) = some (.putfield 121, 3, 11, 28, 0, q'))
    (hl : mget lv 0 = some (.ref m)) (hq : PQ g ρ m h a e) (h0 : 0 ≤ a.toInt) (h1 : a.toInt ≤ 900) (k : ∀ h' a', PQ g ρ m h' a' e → okFr ρ [30] h h' → a'.toInt = a.toInt + 1 → mE cal none nL tab b (pc + 10, lv, st, h') P) : mE cal none nL tab (b + 6) (pc, lv, st, h) P := by
  obtain ⟨hH, hm, fs, c1, c2, c3⟩ := id hq
  have e1 : (1 : Int32).toInt = 1 := by decide
  have e2 : (a + 1).toInt = a.toInt + 1 := by rw [add_id (by omega) (by omega), e1]
  refine mE_aldn (pc + 1) t0 hl rfl rfl ?_
  refine mE_dup (pc + 2) t1 rfl rfl ?_
  refine mE_gf (pc + 5) t2 rfl c1 c2 rfl ?_
  refine mE_ico (pc + 6) 1 t3 rfl rfl ?_
  refine mE_iadd (pc + 7) (a + 1) t4 rfl rfl ?_
  have hj : 28 < fs.length := (List.getElem?_eq_some_iff.mp c2).1
  refine mE_pf (pc + 10) t5 c1 ?_ rfl ?_
  · show (true && Nat.blt 28 fs.length) = true
    rw [Nat.blt_eq.mpr hj]
    rfl
  · obtain ⟨k1, k2⟩ := hq.put (a' := a + 1) (by omega) (by omega) c1
    exact k _ _ k1 k2 e2
set_option maxRecDepth 10000 in
theorem r_look (d : Nat) (hq : PQ g ρ m h a e) (h0 : 0 ≤ a.toInt) (he : e.toInt ≤ 300) : mR (d + 1) 111 [.ref m] h (fun r h' => h' = h ∧ ∃ c : Int32, r = some (.int c) ∧ (c ≠ 0 → a.toInt < e.toInt)) := by
  obtain ⟨hH, hm, fs, c1, c2, c3⟩ := hq
  refine mR_ix [(0, .ref m)] rfl rfl rfl ?_
  refine mE_aldn 1 rfl rfl rfl rfl ?_
  refine mE_gf 4 rfl rfl c1 c2 rfl ?_
  refine mE_aldn 5 rfl rfl rfl rfl ?_
  refine mE_gf 8 rfl rfl c1 c3 rfl ?_
  refine mE_ic_ge rfl (fun h1 => ?_) (fun h1 => ?_)
  · refine mE_ico 24 0 rfl rfl rfl ?_
    exact mE_iret rfl ⟨rfl, rfl, 0, rfl, fun q => absurd rfl q⟩
  · have h1 := Int32.lt_iff_toInt_lt.mp (Int32.not_le.mp h1)
    obtain ⟨fs', c4, c5, c6⟩ := fld hH hm rM_eq
    rw [c1] at c4
    cases c4
    obtain ⟨v, c7, kt, rfl, hkt⟩ := c6 25 (3, 51, 0) rfl
    have hkt : ρ[kt]? = some 51 := hkt
    obtain ⟨c, c8, xs, rfl, c9, -⟩ := hH.at hkt (R := .inr (.inl (0, 360, -2147483648, 2147483647))) rfl
    have e0 : (0 : Int32).toInt = 0 := by decide
    have e1 : (a.toNatClampNeg : Int) = a.toInt := by
      show ((a.toInt.toNat : Nat) : Int) = a.toInt
      omega
    have hlt : a.toNatClampNeg < xs.length := by rw [c9]; omega
    refine mE_aldn 12 rfl rfl rfl rfl ?_
    refine mE_gf 15 rfl rfl c1 c7 rfl ?_
    refine mE_aldn 16 rfl rfl rfl rfl ?_
    refine mE_gf 19 rfl rfl c1 c2 rfl ?_
    refine mE_ila 20 rfl c8 (fun q => by have := Int32.lt_iff_toInt_lt.mp q; omega) (List.getElem?_eq_getElem hlt) rfl ?_
    refine mE_goto 24 rfl rfl ?_
    exact mE_iret rfl ⟨rfl, rfl, _, rfl, fun _ => h1⟩
theorem p_look {n q : Nat} (t : tab pc = some (.invokevirtual n, 3, 121, 0, 11, q)) (hq : PQ g ρ m h a e) (h0 : 0 ≤ a.toInt) (he : e.toInt ≤ 300) (hs : (Nat.ble st.length 8 && st.all mone) = true) (k : ∀ c : Int32, (c ≠ 0 → a.toInt < e.toInt) → mE (mcall (d + 1)) none nL tab b (pc + 3, lv, .int c :: st, h) P) : mE (mcall (d + 1)) none nL tab (b + 1) (pc, lv, .ref m :: st, h) P := by
  obtain ⟨hH, hm, fs, c1, c2, c3⟩ := id hq
  obtain ⟨s1, s2⟩ := mand hs
  refine mE_cv [] st t rfl rfl rfl c1 (by simp only [List.take_zero, List.all_nil, s1, s2]; rfl) ?_
  obtain ⟨r, h', e1, rfl, c, rfl, hc⟩ := r_look d hq h0 he
  exact ⟨_, _, e1, k c hc⟩
theorem p_sub {n y nn q : Nat} (hC : PC d y nn) (hg : okG aBl g) (t : tab pc = some (.invokevirtual n, 3, y + 10, 0, 11, q)) (hq : PQ g ρ m h a e) (h0 : 0 ≤ a.toInt) (h1 : a.toInt ≤ 300) (he : e.toInt ≤ 300) (hn : e.toInt - a.toInt ≤ nn) (hs : (Nat.ble st.length 8 && st.all mone) = true) (k : ∀ (v : Int32) (h' : mS) (a' : Int32), PQ g ρ m h' a' e → okFr ρ [30] h h' → a.toInt < a'.toInt → a'.toInt ≤ pu a.toInt e.toInt → mE (mcall d) none nL tab b (pc + 3, lv, .int v :: st, h') P) : mE (mcall d) none nL tab (b + 1) (pc, lv, .ref m :: st, h) P := by
  obtain ⟨hH, hm, fs, c1, c2, c3⟩ := id hq
  obtain ⟨s1, s2⟩ := mand hs
  obtain ⟨v, h', a', e1, e2, e3, e4, e5⟩ := hC g ρ m h a e hg hq h0 h1 he hn
  refine mE_cv [] st t (by
    cases hb : Nat.blt (y + 10) 10 with
    | true => have := Nat.blt_eq.mp hb; omega
    | false => rfl) rfl rfl c1 (by simp only [List.take_zero, List.all_nil, s1, s2]; rfl) ?_
  exact ⟨some (.int v), h', by rw [Nat.add_sub_cancel]; exact e1, k v h' a' e2 e3 e4 e5⟩
theorem p_ist {i : Fin 4} {x : Int32} (t : tab pc = some (.istore_n i, 1, 0, 0, 0, 0)) (hi : Nat.blt i.val nL = true) (hl : ∀ q ∈ lv, mone q.2 = true) (k : ∀ lv', mget lv' i.val = some (.int x) → (∀ j, j ≠ i.val → mget lv' j = mget lv j) → (∀ q ∈ lv', mone q.2 = true) → mE cal none nL tab b (pc + 1, lv', st, h) P) : mE cal none nL tab (b + 1) (pc, lv, .int x :: st, h) P :=
  mE_istn (pc + 1) _ t (by rw [hi]; rfl) rfl rfl (k _ (mget_put_self _ _ _) (fun j hj => mget_put lv i.val j _ hj hl) (mput_mone hl rfl))
end PA
/-- what each part owes -/
def PP (g : Nat → Int) (ρ : List Nat) (m : Nat) (h0 : mS) (a0 e : Int32) : Option Value → mS → Prop := fun r h' => ∃ (v : Int32) (a' : Int32), r = some (.int v) ∧ PQ g ρ m h' a' e ∧ okFr ρ [30] h0 h' ∧ a0.toInt < a'.toInt ∧ a'.toInt ≤ pu a0.toInt e.toInt
theorem PC_of {d y n : Nat} (h : ∀ (g : Nat → Int) (ρ : List Nat) (m : Nat) (h : mS) (a e : Int32), okG aBl g → PQ g ρ m h a e → 0 ≤ a.toInt → a.toInt ≤ 300 → e.toInt ≤ 300 → e.toInt - a.toInt ≤ n → mR d y [.ref m] h (PP g ρ m h a e)) : PC d y n := by
  intro g ρ m hh a e h1 h2 h3 h4 h5 h6
  obtain ⟨r, h', e1, v, a', rfl, e2, e3, e4, e5⟩ := h g ρ m hh a e h1 h2 h3 h4 h5 h6
  exact ⟨v, h', a', e1, e2, e3, e4, e5⟩
theorem c_ne0 {c x : Int32} (h : ¬ ¬ c = x) (hx : x ≠ 0) : c ≠ 0 := fun e => hx (by rw [← Classical.not_not.mp h, e])
set_option maxRecDepth 10000 in
set_option maxHeartbeats 1000000 in
/-- anyOf and allOf -/
theorem PC_any {d n : Nat} (hC : PC (d + 1) 113 n) : PC (d + 2) 112 n := by
  refine PC_of (fun g ρ m h a e hg hq h0 h1 he hn => ?_)
  refine mR_ix [(0, .ref m)] rfl rfl rfl ?_
  refine mE_aldn 1 rfl rfl rfl rfl ?_
  refine p_sub hC hg rfl hq h0 h1 he hn rfl (fun v h2 a2 q2 f2 l2 u2 => ?_)
  refine p_ist (lv := [(0, .ref m)]) rfl rfl (fun q hq => by rcases List.mem_cons.mp hq with rfl | hq; rfl; cases hq) (fun lv g1 g2 g3 => ?_)
  have key : ∀ (k : Nat) (h2 : mS) (a2 : Int32) (lv : mL) (v : Int32), PQ g ρ m h2 a2 e → okFr ρ [30] h h2 → a.toInt < a2.toInt → a2.toInt ≤ pu a.toInt e.toInt → e.toInt - a2.toInt ≤ k → mget lv 0 = some (.ref m) → mget lv 1 = some (.int v) → (∀ q ∈ lv, mone q.2 = true) → mE (mcall (d + 1)) none 3 (mgd 48 mtX11_anyOf) (60 * k + 60) (5, lv, [], h2) (fun r h' => mretok (some .int) r = true ∧ PP g ρ m h a e r h') := by
    intro k
    induction k with
    | zero =>
      intro h2 a2 lv v q2 f2 l2 u2 hk g0 g1 g3
      refine mE_aldn 6 rfl g0 rfl rfl ?_
      refine p_look rfl q2 (by omega) he rfl (fun c hc => ?_)
      refine mE_bip 11 124 rfl rfl rfl ?_
      refine mE_ic_ne rfl (fun hx => ?_) (fun hx => ?_)
      · refine mE_ildn 47 rfl g1 rfl rfl ?_
        exact mE_iret rfl ⟨rfl, v, a2, rfl, q2, f2, l2, u2⟩
      · have := hc (c_ne0 hx (by decide))
        omega
    | succ k ih =>
      intro h2 a2 lv v q2 f2 l2 u2 hk g0 g1 g3
      refine mE_aldn 6 rfl g0 rfl rfl ?_
      refine p_look rfl q2 (by omega) he rfl (fun c hc => ?_)
      refine mE_bip 11 124 rfl rfl rfl ?_
      refine mE_ic_ne rfl (fun hx => ?_) (fun hx => ?_)
      · refine mE_ildn 47 rfl g1 rfl rfl ?_
        exact mE_iret rfl ⟨rfl, v, a2, rfl, q2, f2, l2, u2⟩
      · have hlt := hc (c_ne0 hx (by decide))
        refine p_at rfl rfl rfl rfl rfl rfl g0 q2 (by omega) (by omega) (fun h3 a3 q3 f3 e3 => ?_)
        refine mE_aldn 25 rfl g0 rfl rfl ?_
        refine p_sub hC hg rfl q3 (by omega) (by omega) he (by omega) rfl (fun w h4 a4 q4 f4 l4 u4 => ?_)
        have u5 : a4.toInt ≤ pu a.toInt e.toInt := by
          unfold pu at u4 u2 ⊢
          rw [if_pos (by omega)] at u4 ⊢
          omega
        refine p_ist rfl rfl g3 (fun lv4 k1 k2 k3 => ?_)
        have k0 : mget lv4 0 = some (.ref m) := by rw [k2 0 (by decide)]; exact g0
        have k4 : mget lv4 1 = some (.int v) := by rw [k2 1 (by decide)]; exact g1
        have j42 : ∀ x : Int32, mE (mcall (d + 1)) none 3 (mgd 48 mtX11_anyOf) (60 * k + 60 + 2) (42, lv4, [.int x], h4) (fun r h' => mretok (some .int) r = true ∧ PP g ρ m h a e r h') := by
          intro x
          refine p_ist rfl rfl k3 (fun lv5 r1 r2 r3 => ?_)
          refine mE_goto 5 rfl rfl ?_
          exact ih h4 a4 lv5 x q4 ((f2.trans f3).trans f4) (by omega) u5 (by omega) (by rw [r2 0 (by decide)]; exact k0) r1 r3
        refine mE_le (b := 60 * k + 60 + 2 + 10) ?_ (by omega)
        refine mE_ildn 30 rfl k4 rfl rfl ?_
        refine mE_if_ne rfl (fun _ => ?_) (fun _ => ?_)
        · refine mE_ico 38 1 rfl rfl rfl ?_
          refine mE_goto 42 rfl rfl ?_
          exact mE_le (j42 1) (by omega)
        · refine mE_ildn 34 rfl k1 rfl rfl ?_
          refine mE_if_eq rfl (fun _ => ?_) (fun _ => ?_)
          · refine mE_ico 42 0 rfl rfl rfl ?_
            exact mE_le (j42 0) (by omega)
          · refine mE_ico 38 1 rfl rfl rfl ?_
            refine mE_goto 42 rfl rfl ?_
            exact mE_le (j42 1) (by omega)
  refine mE_le (key 301 h2 a2 lv v q2 f2 l2 u2 (by omega) (by rw [g2 0 (by decide)]; rfl) g1 g3) (Nat.le_of_ble_eq_true rfl)
set_option maxRecDepth 10000 in
set_option maxHeartbeats 1000000 in
theorem PC_all {d n : Nat} (hC : PC (d + 1) 114 n) : PC (d + 2) 113 n := by
  refine PC_of (fun g ρ m h a e hg hq h0 h1 he hn => ?_)
  refine mR_ix [(0, .ref m)] rfl rfl rfl ?_
  refine mE_aldn 1 rfl rfl rfl rfl ?_
  refine p_sub hC hg rfl hq h0 h1 he hn rfl (fun v h2 a2 q2 f2 l2 u2 => ?_)
  refine p_ist (lv := [(0, .ref m)]) rfl rfl (fun q hq => by rcases List.mem_cons.mp hq with rfl | hq; rfl; cases hq) (fun lv g1 g2 g3 => ?_)
  have key : ∀ (k : Nat) (h2 : mS) (a2 : Int32) (lv : mL) (v : Int32), PQ g ρ m h2 a2 e → okFr ρ [30] h h2 → a.toInt < a2.toInt → a2.toInt ≤ pu a.toInt e.toInt → e.toInt - a2.toInt ≤ k → mget lv 0 = some (.ref m) → mget lv 1 = some (.int v) → (∀ q ∈ lv, mone q.2 = true) → mE (mcall (d + 1)) none 3 (mgd 48 mtX11_allOf) (60 * k + 60) (5, lv, [], h2) (fun r h' => mretok (some .int) r = true ∧ PP g ρ m h a e r h') := by
    intro k
    induction k with
    | zero =>
      intro h2 a2 lv v q2 f2 l2 u2 hk g0 g1 g3
      refine mE_aldn 6 rfl g0 rfl rfl ?_
      refine p_look rfl q2 (by omega) he rfl (fun c hc => ?_)
      refine mE_bip 11 38 rfl rfl rfl ?_
      refine mE_ic_ne rfl (fun hx => ?_) (fun hx => ?_)
      · refine mE_ildn 47 rfl g1 rfl rfl ?_
        exact mE_iret rfl ⟨rfl, v, a2, rfl, q2, f2, l2, u2⟩
      · have := hc (c_ne0 hx (by decide))
        omega
    | succ k ih =>
      intro h2 a2 lv v q2 f2 l2 u2 hk g0 g1 g3
      refine mE_aldn 6 rfl g0 rfl rfl ?_
      refine p_look rfl q2 (by omega) he rfl (fun c hc => ?_)
      refine mE_bip 11 38 rfl rfl rfl ?_
      refine mE_ic_ne rfl (fun hx => ?_) (fun hx => ?_)
      · refine mE_ildn 47 rfl g1 rfl rfl ?_
        exact mE_iret rfl ⟨rfl, v, a2, rfl, q2, f2, l2, u2⟩
      · have hlt := hc (c_ne0 hx (by decide))
        refine p_at rfl rfl rfl rfl rfl rfl g0 q2 (by omega) (by omega) (fun h3 a3 q3 f3 e3 => ?_)
        refine mE_aldn 25 rfl g0 rfl rfl ?_
        refine p_sub hC hg rfl q3 (by omega) (by omega) he (by omega) rfl (fun w h4 a4 q4 f4 l4 u4 => ?_)
        have u5 : a4.toInt ≤ pu a.toInt e.toInt := by
          unfold pu at u4 u2 ⊢
          rw [if_pos (by omega)] at u4 ⊢
          omega
        refine p_ist rfl rfl g3 (fun lv4 k1 k2 k3 => ?_)
        have k0 : mget lv4 0 = some (.ref m) := by rw [k2 0 (by decide)]; exact g0
        have k4 : mget lv4 1 = some (.int v) := by rw [k2 1 (by decide)]; exact g1
        have j42 : ∀ x : Int32, mE (mcall (d + 1)) none 3 (mgd 48 mtX11_allOf) (60 * k + 60 + 2) (42, lv4, [.int x], h4) (fun r h' => mretok (some .int) r = true ∧ PP g ρ m h a e r h') := by
          intro x
          refine p_ist rfl rfl k3 (fun lv5 r1 r2 r3 => ?_)
          refine mE_goto 5 rfl rfl ?_
          exact ih h4 a4 lv5 x q4 ((f2.trans f3).trans f4) (by omega) u5 (by omega) (by rw [r2 0 (by decide)]; exact k0) r1 r3
        refine mE_le (b := 60 * k + 60 + 2 + 10) ?_ (by omega)
        refine mE_ildn 30 rfl k4 rfl rfl ?_
        refine mE_if_eq rfl (fun _ => ?_) (fun _ => ?_)
        · refine mE_ico 42 0 rfl rfl rfl ?_
          exact mE_le (j42 0) (by omega)
        · refine mE_ildn 34 rfl k1 rfl rfl ?_
          refine mE_if_eq rfl (fun _ => ?_) (fun _ => ?_)
          · refine mE_ico 42 0 rfl rfl rfl ?_
            exact mE_le (j42 0) (by omega)
          · refine mE_ico 38 1 rfl rfl rfl ?_
            refine mE_goto 42 rfl rfl ?_
            exact mE_le (j42 1) (by omega)
  refine mE_le (key 301 h2 a2 lv v q2 f2 l2 u2 (by omega) (by rw [g2 0 (by decide)]; rfl) g1 g3) (Nat.le_of_ble_eq_true rfl)
set_option maxRecDepth 10000 in
set_option maxHeartbeats 1000000 in
theorem PC_prod {d n : Nat} (hC : PC (d + 1) 118 n) : PC (d + 2) 117 n := by
  refine PC_of (fun g ρ m h a e hg hq h0 h1 he hn => ?_)
  refine mR_ix [(0, .ref m)] rfl rfl rfl ?_
  refine mE_aldn 1 rfl rfl rfl rfl ?_
  refine p_sub hC hg rfl hq h0 h1 he hn rfl (fun v h2 a2 q2 f2 l2 u2 => ?_)
  refine p_ist (lv := [(0, .ref m)]) rfl rfl (fun q hq => by rcases List.mem_cons.mp hq with rfl | hq; rfl; cases hq) (fun lv g1 g2 g3 => ?_)
  have key : ∀ (k : Nat) (h2 : mS) (a2 : Int32) (lv : mL) (v : Int32), PQ g ρ m h2 a2 e → okFr ρ [30] h h2 → a.toInt < a2.toInt → a2.toInt ≤ pu a.toInt e.toInt → e.toInt - a2.toInt ≤ k → mget lv 0 = some (.ref m) → mget lv 1 = some (.int v) → (∀ q ∈ lv, mone q.2 = true) → mE (mcall (d + 1)) none 2 (mgd 36 mtX11_productOf) (60 * k + 60) (5, lv, [], h2) (fun r h' => mretok (some .int) r = true ∧ PP g ρ m h a e r h') := by
    intro k
    induction k with
    | zero =>
      intro h2 a2 lv v q2 f2 l2 u2 hk g0 g1 g3
      refine mE_aldn 6 rfl g0 rfl rfl ?_
      refine p_look rfl q2 (by omega) he rfl (fun c hc => ?_)
      refine mE_bip 11 42 rfl rfl rfl ?_
      refine mE_ic_ne rfl (fun hx => ?_) (fun hx => ?_)
      · refine mE_ildn 35 rfl g1 rfl rfl ?_
        exact mE_iret rfl ⟨rfl, v, a2, rfl, q2, f2, l2, u2⟩
      · have := hc (c_ne0 hx (by decide))
        omega
    | succ k ih =>
      intro h2 a2 lv v q2 f2 l2 u2 hk g0 g1 g3
      refine mE_aldn 6 rfl g0 rfl rfl ?_
      refine p_look rfl q2 (by omega) he rfl (fun c hc => ?_)
      refine mE_bip 11 42 rfl rfl rfl ?_
      refine mE_ic_ne rfl (fun hx => ?_) (fun hx => ?_)
      · refine mE_ildn 35 rfl g1 rfl rfl ?_
        exact mE_iret rfl ⟨rfl, v, a2, rfl, q2, f2, l2, u2⟩
      · have hlt := hc (c_ne0 hx (by decide))
        refine p_at rfl rfl rfl rfl rfl rfl g0 q2 (by omega) (by omega) (fun h3 a3 q3 f3 e3 => ?_)
        refine mE_ildn 25 rfl g1 rfl rfl ?_
        refine mE_aldn 26 rfl g0 rfl rfl ?_
        refine p_sub hC hg rfl q3 (by omega) (by omega) he (by omega) rfl (fun w h4 a4 q4 f4 l4 u4 => ?_)
        have u5 : a4.toInt ≤ pu a.toInt e.toInt := by
          unfold pu at u4 u2 ⊢
          rw [if_pos (by omega)] at u4 ⊢
          omega
        refine mE_imul 30 _ rfl rfl rfl ?_
        refine p_ist rfl rfl g3 (fun lv4 k1 k2 k3 => ?_)
        refine mE_goto 5 rfl rfl ?_
        exact mE_le (ih h4 a4 lv4 _ q4 ((f2.trans f3).trans f4) (by omega) u5 (by omega) (by rw [k2 0 (by decide)]; exact g0) k1 k3) (by omega)
  refine mE_le (key 301 h2 a2 lv v q2 f2 l2 u2 (by omega) (by rw [g2 0 (by decide)]; rfl) g1 g3) (Nat.le_of_ble_eq_true rfl)
set_option maxRecDepth 10000 in
set_option maxHeartbeats 1000000 in
theorem PC_sum {d n : Nat} (hC : PC (d + 1) 117 n) : PC (d + 2) 116 n := by
  refine PC_of (fun g ρ m h a e hg hq h0 h1 he hn => ?_)
  refine mR_ix [(0, .ref m)] rfl rfl rfl ?_
  refine mE_aldn 1 rfl rfl rfl rfl ?_
  refine p_sub hC hg rfl hq h0 h1 he hn rfl (fun v h2 a2 q2 f2 l2 u2 => ?_)
  refine p_ist (lv := [(0, .ref m)]) rfl rfl (fun q hq => by rcases List.mem_cons.mp hq with rfl | hq; rfl; cases hq) (fun lv g1 g2 g3 => ?_)
  have key : ∀ (k : Nat) (h2 : mS) (a2 : Int32) (lv : mL) (v : Int32), PQ g ρ m h2 a2 e → okFr ρ [30] h h2 → a.toInt < a2.toInt → a2.toInt ≤ pu a.toInt e.toInt → e.toInt - a2.toInt ≤ k → mget lv 0 = some (.ref m) → mget lv 1 = some (.int v) → (∀ q ∈ lv, mone q.2 = true) → mE (mcall (d + 1)) none 3 (mgd 62 mtX11_sumOf) (60 * k + 60) (5, lv, [], h2) (fun r h' => mretok (some .int) r = true ∧ PP g ρ m h a e r h') := by
    intro k
    induction k with
    | zero =>
      intro h2 a2 lv v q2 f2 l2 u2 hk g0 g1 g3
      refine mE_aldn 6 rfl g0 rfl rfl ?_
      refine p_look rfl q2 (by omega) he rfl (fun c hc => ?_)
      refine mE_bip 11 43 rfl rfl rfl ?_
      refine mE_ic_eq rfl (fun hx => ?_) (fun hx => ?_)
      · have := hc (by rw [hx]; decide)
        omega
      · refine mE_aldn 15 rfl g0 rfl rfl ?_
        refine p_look rfl q2 (by omega) he rfl (fun c2 hc2 => ?_)
        refine mE_bip 20 45 rfl rfl rfl ?_
        refine mE_ic_ne rfl (fun hx => ?_) (fun hx => ?_)
        · refine mE_ildn 61 rfl g1 rfl rfl ?_
          exact mE_iret rfl ⟨rfl, v, a2, rfl, q2, f2, l2, u2⟩
        · have := hc2 (c_ne0 hx (by decide))
          omega
    | succ k ih =>
      intro h2 a2 lv v q2 f2 l2 u2 hk g0 g1 g3
      have body : a2.toInt < e.toInt → mE (mcall (d + 1)) none 3 (mgd 62 mtX11_sumOf) (60 * k + 60 + 30) (23, lv, [], h2) (fun r h' => mretok (some .int) r = true ∧ PP g ρ m h a e r h') := by
        intro hlt
        have j37 : ∀ x : Int32, mE (mcall (d + 1)) none 3 (mgd 62 mtX11_sumOf) (60 * k + 60 + 20) (37, lv, [.int x], h2) (fun r h' => mretok (some .int) r = true ∧ PP g ρ m h a e r h') := by
          intro x
          refine p_ist rfl rfl g3 (fun lv4 k1 k2 k3 => ?_)
          have k0 : mget lv4 0 = some (.ref m) := by rw [k2 0 (by decide)]; exact g0
          have k4 : mget lv4 1 = some (.int v) := by rw [k2 1 (by decide)]; exact g1
          refine p_at rfl rfl rfl rfl rfl rfl k0 q2 (by omega) (by omega) (fun h3 a3 q3 f3 e3 => ?_)
          refine mE_ildn 49 rfl k4 rfl rfl ?_
          refine mE_ildn 50 rfl k1 rfl rfl ?_
          refine mE_aldn 51 rfl k0 rfl rfl ?_
          refine p_sub hC hg rfl q3 (by omega) (by omega) he (by omega) rfl (fun w h4 a4 q4 f4 l4 u4 => ?_)
          have u5 : a4.toInt ≤ pu a.toInt e.toInt := by
            unfold pu at u4 u2 ⊢
            rw [if_pos (by omega)] at u4 ⊢
            omega
          refine mE_imul 55 _ rfl rfl rfl ?_
          refine mE_iadd 56 _ rfl rfl rfl ?_
          refine p_ist rfl rfl k3 (fun lv5 r1 r2 r3 => ?_)
          refine mE_goto 5 rfl rfl ?_
          exact mE_le (ih h4 a4 lv5 _ q4 ((f2.trans f3).trans f4) (by omega) u5 (by omega) (by rw [r2 0 (by decide)]; exact k0) r1 r3) (by omega)
        refine mE_aldn 24 rfl g0 rfl rfl ?_
        refine p_look rfl q2 (by omega) he rfl (fun c hc => ?_)
        refine mE_bip 29 43 rfl rfl rfl ?_
        refine mE_ic_ne rfl (fun hx => ?_) (fun hx => ?_)
        · refine mE_ico 37 (-1) rfl rfl rfl ?_
          exact mE_le (j37 (-1)) (by omega)
        · refine mE_ico 33 1 rfl rfl rfl ?_
          refine mE_goto 37 rfl rfl ?_
          exact mE_le (j37 1) (by omega)
      refine mE_aldn 6 rfl g0 rfl rfl ?_
      refine p_look rfl q2 (by omega) he rfl (fun c hc => ?_)
      refine mE_bip 11 43 rfl rfl rfl ?_
      refine mE_ic_eq rfl (fun hx => ?_) (fun hx => ?_)
      · exact mE_le (body (hc (by rw [hx]; decide))) (by omega)
      · refine mE_aldn 15 rfl g0 rfl rfl ?_
        refine p_look rfl q2 (by omega) he rfl (fun c2 hc2 => ?_)
        refine mE_bip 20 45 rfl rfl rfl ?_
        refine mE_ic_ne rfl (fun hx => ?_) (fun hx => ?_)
        · refine mE_ildn 61 rfl g1 rfl rfl ?_
          exact mE_iret rfl ⟨rfl, v, a2, rfl, q2, f2, l2, u2⟩
        · exact mE_le (body (hc2 (c_ne0 hx (by decide)))) (by omega)
  refine mE_le (key 301 h2 a2 lv v q2 f2 l2 u2 (by omega) (by rw [g2 0 (by decide)]; rfl) g1 g3) (Nat.le_of_ble_eq_true rfl)
