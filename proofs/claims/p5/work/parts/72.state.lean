/-! roles of cells: an object (class, types of its fields), an array of ints (tag, length, least, most), an array of references (tag, length, role; 0: null too, 1: never null, 2 + p: not null below g p) -/
abbrev aR : Type := (Nat × List aV) ⊕ ((Nat × Nat × Int × Int) ⊕ (Nat × Nat × Nat × Nat))
def aNul (g : Nat → Int) (mode j : Nat) : Prop := match mode with
  | 0 => True
  | 1 => False
  | p + 2 => g p ≤ j
def okC (g : Nat → Int) (ρ : List Nat) (r : aR) (c : mC) : Prop := match r with
  | .inl (ci, fts) => ∃ fs : List Value, c = .inr (ci, fs) ∧ fs.length = fts.length ∧ ∀ (j : Nat) (t : aV) (v : Value), fts[j]? = some t → fs[j]? = some v → hasT g ρ t v
  | .inr (.inl (t, n, lo, hi)) => ∃ xs : List Int32, c = .inl (t, .inl xs) ∧ xs.length = n ∧ ∀ x ∈ xs, lo ≤ x.toInt ∧ x.toInt ≤ hi
  | .inr (.inr (t, n, r, mode)) => ∃ qs : List (Option Nat), c = .inl (t, .inr qs) ∧ qs.length = n ∧ ∀ (j : Nat) (q : Option Nat), qs[j]? = some q → (q = none ∧ aNul g mode j) ∨ ∃ k : Nat, q = some k ∧ ρ[k]? = some r
/-- roles that one cell alone may have, by groups; 0: many may -/
def grp (r : Nat) : Nat := if r = 10 ∨ r = 11 ∨ r = 12 ∨ r = 23 ∨ r = 24 ∨ r = 25 ∨ r = 26 then 0 else if r = 63 then 19 else if r = 64 then 20 else if r = 61 ∨ r = 62 ∨ (70 ≤ r ∧ r ≤ 78) then 31 else r + 1
def uqR (ρ : List Nat) : Prop := ∀ k k' r r' : Nat, ρ[k]? = some r → ρ[k']? = some r' → grp r = grp r' → grp r ≠ 0 → k = k'
def okH (rI : Nat → Option aR) (g : Nat → Int) (ρ : List Nat) (h : List mC) : Prop := ρ.length = h.length ∧ (∀ (k r : Nat) (c : mC), ρ[k]? = some r → h[k]? = some c → ∃ R, rI r = some R ∧ okC g ρ R c) ∧ uqR ρ
section TH
variable {rI : Nat → Option aR} {g : Nat → Int} {ρ : List Nat} {h : List mC}
theorem okH.at {k r : Nat} {R : aR} (hh : okH rI g ρ h) (hk : ρ[k]? = some r) (hr : rI r = some R) : ∃ c, h[k]? = some c ∧ okC g ρ R c := by
  have hl : k < h.length := by rw [← hh.1]; exact (List.getElem?_eq_some_iff.mp hk).1
  have hc : h[k]? = some (h[k]'hl) := List.getElem?_eq_getElem hl
  obtain ⟨R', h1, h2⟩ := hh.2.1 k r _ hk hc
  rw [hr] at h1
  cases h1
  exact ⟨_, hc, h2⟩
theorem okH.set {k r : Nat} {R : aR} {c : mC} (hh : okH rI g ρ h) (hk : ρ[k]? = some r) (hr : rI r = some R) (hc : okC g ρ R c) : okH rI g ρ (h.set k c) := by
  refine ⟨by rw [List.length_set]; exact hh.1, fun k2 r2 c2 h1 h2 => ?_, hh.2.2⟩
  by_cases he : k = k2
  · subst he
    have hl : k < h.length := by rw [← hh.1]; exact (List.getElem?_eq_some_iff.mp hk).1
    rw [List.getElem?_set_self hl] at h2
    cases h2
    rw [hk] at h1
    cases h1
    exact ⟨R, hr, hc⟩
  · rw [List.getElem?_set_ne he] at h2
    exact hh.2.1 k2 r2 c2 h1 h2
theorem okH.get {k r ci : Nat} {fts : List aV} {j : Nat} {t : aV} (hh : okH rI g ρ h) (hk : ρ[k]? = some r) (hr : rI r = some (.inl (ci, fts))) (hj : fts[j]? = some t) : ∃ (fs : List Value) (v : Value), h[k]? = some (.inr (ci, fs)) ∧ fs[j]? = some v ∧ fs.length = fts.length ∧ hasT g ρ t v := by
  obtain ⟨c, h1, fs, rfl, h2, h3⟩ := hh.at hk hr
  have hl : j < fs.length := by rw [h2]; exact (List.getElem?_eq_some_iff.mp hj).1
  have hv : fs[j]? = some (fs[j]'hl) := List.getElem?_eq_getElem hl
  exact ⟨fs, _, h1, hv, h2, h3 j t _ hj hv⟩
theorem okH.put {k r ci : Nat} {fts : List aV} {j : Nat} {t : aV} {fs : List Value} {v : Value} (hh : okH rI g ρ h) (hk : ρ[k]? = some r) (hr : rI r = some (.inl (ci, fts))) (hj : fts[j]? = some t) (hc : h[k]? = some (.inr (ci, fs))) (hv : hasT g ρ t v) : okH rI g ρ (h.set k (.inr (ci, fs.set j v))) := by
  obtain ⟨c, h1, fs', rfl, h2, h3⟩ := hh.at hk hr
  rw [hc] at h1
  cases h1
  refine hh.set hk hr ⟨_, rfl, by rw [List.length_set]; exact h2, fun i t' v' hi hv' => ?_⟩
  by_cases he : j = i
  · subst he
    have hl : j < fs.length := by rw [h2]; exact (List.getElem?_eq_some_iff.mp hj).1
    rw [List.getElem?_set_self hl] at hv'
    cases hv'
    rw [hj] at hi
    cases hi
    exact hv
  · rw [List.getElem?_set_ne he] at hv'
    exact h3 i t' v' hi hv'
end TH
/-! variables: a local (below 1000), or field k of this (1000 + k) -/
def vcell (h : List mC) (v : Option Value) (k : Nat) : Option Value := match v with
  | some (.ref a) => (match h[a]? with | some (.inr o) => o.2[k]? | _ => none)
  | _ => none
def vget (lv : mL) (h : List mC) (x : Nat) : Option Value := bif Nat.blt x 1000 then mget lv x else vcell h (mget lv 0) (x - 1000)
def vint (lv : mL) (h : List mC) (x : Nat) : Int := match vget lv h x with | some (.int y) => y.toInt | _ => 0
abbrev aL : Type := List (Nat × aV)
abbrev aE : Type := aV × Nat × aV
abbrev aM : Type := Int × List (Nat × Int)
abbrev aC : Type := Nat × aL × List aE × aM
def vsame (u v : Value) (w : aV) : Prop := (u = v ∧ misref v = true) ∨ ∃ x y : Int32, u = .int x ∧ v = .int y ∧ x.toInt + w.2.1 ≤ y.toInt ∧ y.toInt ≤ x.toInt + w.2.2
/-- where a stack entry comes from: 0 nowhere; 2x + 1: it is variable x and something in [w]; 2x + 2: if it isn't 0, x has type w -/
def hasO (g : Nat → Int) (ρ : List Nat) (lv : mL) (h : List mC) (o : Nat) (w : aV) (v : Value) : Prop := match o with
  | 0 => True
  | o + 1 => (o % 2 = 0 → ∃ u, vget lv h (o / 2) = some u ∧ vsame u v w) ∧ (o % 2 = 1 → v = .int 0 ∨ ∃ u, vget lv h (o / 2) = some u ∧ hasT g ρ w u)
def hasE (g : Nat → Int) (ρ : List Nat) (lv : mL) (h : List mC) (e : aE) (v : Value) : Prop := hasT g ρ e.1 v ∧ hasO g ρ lv h e.2.1 e.2.2 v
def okL (g : Nat → Int) (ρ : List Nat) (L : aL) (lv : mL) (h : List mC) : Prop := ∀ q ∈ L, ∃ v, vget lv h q.1 = some v ∧ hasT g ρ q.2 v
def okK (g : Nat → Int) (ρ : List Nat) (lv : mL) (h : List mC) : List aE → List Value → Prop
  | [], [] => True
  | e :: es, v :: vs => hasE g ρ lv h e v ∧ okK g ρ lv h es vs
  | _, _ => False
/-- what an object's first field holds, if it is an int -/
def wkV : Option Value → Option Int32
  | some (.int x) => some x
  | _ => none
def wkC : mC → Option Int32
  | .inr q => wkV q.2[0]?
  | .inl _ => none
/-- texts and their lengths, a kind: as they were, or what waited has come into force -/
def rrq (T N W T' N' : List Int32) (w : Int) (q : Nat) : Prop := (N'[2 * q]? = N[2 * q]? ∧ N'[2 * q + 1]? = N[2 * q + 1]? ∧ ∀ j : Nat, j < 60 → T'[120 * q + j]? = T[120 * q + j]? ∧ T'[120 * q + 60 + j]? = T[120 * q + 60 + j]?) ∨ (∃ n u : Int32, N[2 * q + 1]? = some n ∧ 0 < n.toInt ∧ W[q]? = some u ∧ u.toInt ≤ w ∧ N'[2 * q + 1]? = some 0 ∧ N'[2 * q]? = some n ∧ ∀ j : Nat, j < 60 → (j : Int) < n.toInt → T'[120 * q + j]? = T[120 * q + 60 + j]?)
/-- roles 51, 52, 53: texts, lengths, weeks; 30: its first field is the week -/
def RR (ρ : List Nat) (h0 h : List mC) : Prop := ∀ (kT kN kW kM : Nat) (T N W : List Int32) (x : Int32), ρ[kT]? = some 51 → ρ[kN]? = some 52 → ρ[kW]? = some 53 → ρ[kM]? = some 30 → h0[kT]? = some (.inl (0, .inl T)) → h0[kN]? = some (.inl (0, .inl N)) → h0[kW]? = some (.inl (0, .inl W)) → (h0[kM]?).bind wkC = some x → ∃ (T' N' : List Int32) (x' : Int32), h[kT]? = some (.inl (0, .inl T')) ∧ h[kN]? = some (.inl (0, .inl N')) ∧ h[kW]? = some (.inl (0, .inl W)) ∧ (h[kM]?).bind wkC = some x' ∧ x.toInt ≤ x'.toInt ∧ ∀ q : Nat, q < 3 → rrq T N W T' N' x'.toInt q
theorem rrq_same {T N W : List Int32} {w : Int} {q : Nat} : rrq T N W T N w q := Or.inl ⟨rfl, rfl, fun _ _ => ⟨rfl, rfl⟩⟩
theorem rrq_trans {T N W T' N' T'' N'' : List Int32} {w w' : Int} {q : Nat} (hw : w ≤ w') (a : rrq T N W T' N' w q) (b : rrq T' N' W T'' N'' w' q) : rrq T N W T'' N'' w' q := by
  rcases a with ⟨a1, a2, a3⟩ | ⟨n, u, a1, a2, a3, a4, a5, a6, a7⟩
  · rcases b with ⟨b1, b2, b3⟩ | ⟨n, u, b1, b2, b3, b4, b5, b6, b7⟩
    · exact Or.inl ⟨b1.trans a1, b2.trans a2, fun j hj => ⟨(b3 j hj).1.trans (a3 j hj).1, (b3 j hj).2.trans (a3 j hj).2⟩⟩
    · rw [a2] at b1
      exact Or.inr ⟨n, u, b1, b2, b3, b4, b5, b6, fun j hj h2 => (b7 j hj h2).trans (a3 j hj).2⟩
  · rcases b with ⟨b1, b2, b3⟩ | ⟨n', u', b1, b2, -⟩
    · exact Or.inr ⟨n, u, a1, a2, a3, by omega, b2.trans a5, b1.trans a6, fun j hj h2 => (b3 j hj).1.trans (a7 j hj h2)⟩
    · rw [a5] at b1
      cases b1
      exact absurd b2 (by decide)
theorem RR.refl {ρ : List Nat} {h : List mC} : RR ρ h h := fun _ _ _ _ T N _ x _ _ _ _ e1 e2 e3 e4 => ⟨T, N, x, e1, e2, e3, e4, Int.le_refl _, fun _ _ => rrq_same⟩
theorem RR.trans {ρ : List Nat} {h0 h1 h2 : List mC} (a : RR ρ h0 h1) (b : RR ρ h1 h2) : RR ρ h0 h2 := by
  intro kT kN kW kM T N W x r1 r2 r3 r4 e1 e2 e3 e4
  obtain ⟨T', N', x', f1, f2, f3, f4, f5, f6⟩ := a kT kN kW kM T N W x r1 r2 r3 r4 e1 e2 e3 e4
  obtain ⟨T'', N'', x'', g1, g2, g3, g4, g5, g6⟩ := b kT kN kW kM T' N' W x' r1 r2 r3 r4 f1 f2 f3 f4
  exact ⟨T'', N'', x'', g1, g2, g3, g4, Int.le_trans f5 g5, fun q hq => rrq_trans g5 (f6 q hq) (g6 q hq)⟩
/-- what none of these cells is touched by -/
theorem RR.of {ρ : List Nat} {h h' : List mC} (a : ∀ k r : Nat, ρ[k]? = some r → (r = 51 ∨ r = 52 ∨ r = 53) → h'[k]? = h[k]?) (b : ∀ k : Nat, ρ[k]? = some 30 → (h'[k]?).bind wkC = (h[k]?).bind wkC) : RR ρ h h' := by
  intro kT kN kW kM T N W x r1 r2 r3 r4 e1 e2 e3 e4
  exact ⟨T, N, x, (a kT 51 r1 (Or.inl rfl)).trans e1, (a kN 52 r2 (Or.inr (Or.inl rfl))).trans e2, (a kW 53 r3 (Or.inr (Or.inr rfl))).trans e3, (b kM r4).trans e4, Int.le_refl _, fun _ _ => rrq_same⟩
theorem RR.set {ρ : List Nat} {h : List mC} {k r : Nat} {c : mC} (hk : ρ[k]? = some r) (hx : r ≠ 51 ∧ r ≠ 52 ∧ r ≠ 53 ∧ (r = 30 → ∀ o, h[k]? = some o → wkC c = wkC o)) : RR ρ h (h.set k c) := by
  refine RR.of (fun k2 r2 q1 q2 => ?_) (fun k2 q => ?_)
  · have hne : k ≠ k2 := fun e => by
      subst e
      rw [hk] at q1
      cases q1
      rcases q2 with q2 | q2 | q2
      · exact hx.1 q2
      · exact hx.2.1 q2
      · exact hx.2.2.1 q2
    exact List.getElem?_set_ne hne
  · by_cases he : k = k2
    · subst he
      rw [hk] at q
      cases q
      cases ho : h[k]? with
      | none =>
        rw [List.getElem?_eq_none (by rw [List.length_set]; exact List.getElem?_eq_none_iff.mp ho)]
      | some o =>
        rw [List.getElem?_set_self (List.getElem?_eq_some_iff.mp ho).1]
        exact hx.2.2.2 rfl o ho
    · rw [List.getElem?_set_ne he]
theorem wk_set {h : List mC} {k ci ci' j : Nat} {fs : List Value} {v : Value} {o : mC} (hc : h[k]? = some (.inr (ci, fs))) (e : h[k]? = some o) (hj : j ≠ 0) : wkC (.inr (ci', fs.set j v)) = wkC o := by
  rw [hc] at e
  cases e
  show wkV (fs.set j v)[0]? = wkV fs[0]?
  rw [List.getElem?_set_ne hj]
def okFr (ρ md : List Nat) (h0 h : mS) : Prop := (∀ (k r : Nat), ρ[k]? = some r → r ∉ md → h.1[k]? = h0.1[k]?) ∧ h.2 = h0.2 ∧ (md.elem 53 = true ∨ RR ρ h0.1 h.1)
def aget (L : aL) (x : Nat) : Option aV := (L.find? (fun q => Nat.beq q.1 x)).map (fun q => q.2)
def aset (L : aL) (x : Nat) (t : aV) : aL := (x, t) :: L.filter (fun q => !Nat.beq q.1 x)
def avar (o : Nat) : Nat := (o - 1) / 2
def aclrL (C : Nat → Bool) (L : aL) : aL := L.filter (fun q => !C q.1)
def aclrE (C : Nat → Bool) (e : aE) : aE := bif Nat.beq e.2.1 0 || C (avar e.2.1) then (e.1, 0, a32) else e
def aclrK (C : Nat → Bool) (K : List aE) : List aE := K.map (aclrE C)
section TS
variable {g : Nat → Int} {ρ : List Nat} {lv lv' : mL} {h h' : List mC} {L : aL} {K : List aE} {st : List Value} {C : Nat → Bool}
theorem aget_mem {x : Nat} {t : aV} (h : aget L x = some t) : (x, t) ∈ L := by
  unfold aget at h
  obtain ⟨q, hq, rfl⟩ := Option.map_eq_some_iff.mp h
  have h1 := List.mem_of_find?_eq_some hq
  have h2 : Nat.beq q.1 x = true := List.find?_some (p := fun q : Nat × aV => Nat.beq q.1 x) hq
  have h3 : q.1 = x := mlen h2
  rw [← h3]
  exact h1
theorem okL.get {x : Nat} {t : aV} (hL : okL g ρ L lv h) (hx : aget L x = some t) : ∃ v, vget lv h x = some v ∧ hasT g ρ t v := hL _ (aget_mem hx)
theorem okL.set {x : Nat} {t : aV} {v : Value} (hL : okL g ρ L lv h) (h1 : vget lv h x = some v) (h2 : hasT g ρ t v) : okL g ρ (aset L x t) lv h := by
  intro q hq
  rcases List.mem_cons.mp hq with rfl | hq
  · exact ⟨v, h1, h2⟩
  · exact hL q (List.mem_filter.mp hq).1
theorem hasE0 {t w : aV} {v : Value} (hv : hasT g ρ t v) : hasE g ρ lv h (t, 0, w) v := ⟨hv, trivial⟩
/-- the state behind a change of some variables alone -/
theorem okL.clr (hL : okL g ρ L lv h) (hC : ∀ x, C x = false → vget lv' h' x = vget lv h x) : okL g ρ (aclrL C L) lv' h' := by
  intro q hq
  obtain ⟨h1, h2⟩ := List.mem_filter.mp hq
  rw [hC q.1 (by simpa using h2)]
  exact hL q h1
theorem hasE.clr {e : aE} {v : Value} (hE : hasE g ρ lv h e v) (hC : ∀ x, C x = false → vget lv' h' x = vget lv h x) : hasE g ρ lv' h' (aclrE C e) v := by
  unfold aclrE
  cases hb : (Nat.beq e.2.1 0 || C (avar e.2.1)) with
  | true => exact ⟨hE.1, trivial⟩
  | false =>
    rw [Bool.or_eq_false_iff] at hb
    obtain ⟨h1, h2⟩ := hb
    refine ⟨hE.1, ?_⟩
    show hasO g ρ lv' h' e.2.1 e.2.2 v
    have hO := hE.2
    unfold avar at h2
    revert hO h1 h2
    cases e.2.1 with
    | zero => intro _ _ _; exact trivial
    | succ o =>
      intro h1 h2 hO
      have e1 : o + 1 - 1 = o := rfl
      rw [e1] at h2
      have e2 := hC _ h2
      refine ⟨fun ho => ?_, fun ho => ?_⟩
      · rw [e2]; exact hO.1 ho
      · rw [e2]; exact hO.2 ho
theorem okK.clr : ∀ {K : List aE} {st : List Value}, okK g ρ lv h K st → (∀ x, C x = false → vget lv' h' x = vget lv h x) → okK g ρ lv' h' (aclrK C K) st
  | [], [], _, _ => trivial
  | _ :: _, _ :: _, hK, hC => ⟨hK.1.clr hC, okK.clr hK.2 hC⟩
theorem okK.mone : ∀ {K : List aE} {st : List Value}, okK g ρ lv h K st → st.all mone = true ∧ st.length = K.length
  | [], [], _ => ⟨rfl, rfl⟩
  | _ :: _, v :: vs, hK => by
    obtain ⟨h1, h2⟩ := okK.mone hK.2
    exact ⟨by rw [List.all_cons, h1, hasT_mone hK.1.1]; rfl, by rw [List.length_cons, List.length_cons, h2]⟩
theorem okK.cons {e : aE} {v : Value} (h1 : hasE g ρ lv h e v) (h2 : okK g ρ lv h K st) : okK g ρ lv h (e :: K) (v :: st) := ⟨h1, h2⟩
theorem okK.inv {e : aE} (hK : okK g ρ lv h (e :: K) st) : ∃ v vs, st = v :: vs ∧ hasE g ρ lv h e v ∧ okK g ρ lv h K vs := by
  cases st with
  | nil => exact hK.elim
  | cons v vs => exact ⟨v, vs, rfl, hK.1, hK.2⟩
theorem okK.nil (hK : okK g ρ lv h [] st) : st = [] := by
  cases st with
  | nil => rfl
  | cons v vs => exact hK.elim
end TS
/-! narrowing -/
/-- the variable that an entry is -/
def ais (e : aE) : Bool := Nat.beq (e.2.1 % 2) 1 && (decide (e.2.2.2.1 = 0) && decide (e.2.2.2.2 = 0))
def anar (L : aL) (e : aE) (t : aV) : aL := bif ais e then aset L (avar e.2.1) t else bif Nat.beq (e.2.1 % 2) 1 && (decide (e.2.2.2.1 = e.2.2.2.2) && Nat.beq t.1 0) then (match aget L (avar e.2.1) with
    | some q => bif Nat.beq q.1 0 then aset L (avar e.2.1) (0, amax q.2.1 (t.2.1 - e.2.2.2.1), amin q.2.2 (t.2.2 - e.2.2.2.1)) else L
    | none => L) else L
def ameet (q w : aV) : aV := bif Nat.beq q.1 0 && Nat.beq w.1 0 then (0, amax q.2.1 w.2.1, amin q.2.2 w.2.2) else w
def atell (L : aL) (e : aE) : aL := bif Nat.beq (e.2.1 % 2) 0 && !Nat.beq e.2.1 0 then aset L (avar e.2.1) (match aget L (avar e.2.1) with | some q => ameet q e.2.2 | none => e.2.2) else L
theorem ameet_ok {g : Nat → Int} {ρ : List Nat} {q w : aV} {v : Value} (h1 : hasT g ρ q v) (h2 : hasT g ρ w v) : hasT g ρ (ameet q w) v := by
  unfold ameet
  cases hb : (Nat.beq q.1 0 && Nat.beq w.1 0) with
  | false => exact h2
  | true =>
    obtain ⟨b1, b2⟩ := mand hb
    unfold hasT at h1 h2
    rw [mlen b1] at h1
    rw [mlen b2] at h2
    obtain ⟨x, rfl, x1, x2⟩ := h1
    obtain ⟨y, e, y1, y2⟩ := h2
    cases e
    refine ⟨x, rfl, ?_, ?_⟩
    · show amax q.2.1 w.2.1 ≤ x.toInt
      unfold amax
      split <;> omega
    · show x.toInt ≤ amin q.2.2 w.2.2
      unfold amin
      split <;> omega
theorem ais_ok {g : Nat → Int} {ρ : List Nat} {lv : mL} {h : List mC} {e : aE} {v : Value} (ha : ais e = true) (hE : hasE g ρ lv h e v) : vget lv h (avar e.2.1) = some v := by
  unfold ais at ha
  obtain ⟨h1, h2⟩ := mand ha
  obtain ⟨h2, h3⟩ := mand h2
  have h1 := mlen h1
  have h2 := of_decide_eq_true h2
  have h3 := of_decide_eq_true h3
  have hO := hE.2
  unfold avar
  revert hO h1
  cases e.2.1 with
  | zero => intro h1; cases h1
  | succ o =>
    intro h1 hO
    obtain ⟨u, e1, e2⟩ := hO.1 (by omega)
    have e3 : o + 1 - 1 = o := rfl
    rw [e3, e1]
    rcases e2 with ⟨e2, -⟩ | ⟨x, y, rfl, rfl, e4, e5⟩
    · rw [e2]
    · rw [h2] at e4
      rw [h3] at e5
      have : x = y := Int32.toInt_inj.mp (by omega)
      rw [this]
theorem okL.nar {g : Nat → Int} {ρ : List Nat} {lv : mL} {h : List mC} {L : aL} {e : aE} {t : aV} {v : Value} (hL : okL g ρ L lv h) (hE : hasE g ρ lv h e v) (ht : hasT g ρ t v) : okL g ρ (anar L e t) lv h := by
  unfold anar
  cases ha : ais e with
  | true => exact hL.set (ais_ok ha hE) ht
  | false =>
    rw [cond_false]
    cases hb : (Nat.beq (e.2.1 % 2) 1 && (decide (e.2.2.2.1 = e.2.2.2.2) && Nat.beq t.1 0)) with
    | false => exact hL
    | true =>
      rw [cond_true]
      obtain ⟨h1, h2⟩ := mand hb
      obtain ⟨h2, h3⟩ := mand h2
      have h1 := mlen h1
      have h2 := of_decide_eq_true h2
      split
      · rename_i q hq
        cases hq0 : Nat.beq q.1 0 with
        | false => exact hL
        | true =>
          rw [cond_true]
          obtain ⟨u, e1, e2⟩ := hL.get hq
          unfold hasT at ht e2
          rw [mlen h3] at ht
          rw [mlen hq0] at e2
          obtain ⟨y, rfl, y1, y2⟩ := ht
          obtain ⟨x, rfl, x1, x2⟩ := e2
          have hO := hE.2
          have hs : x.toInt + e.2.2.2.1 = y.toInt := by
            unfold avar at e1
            revert hO h1 e1
            cases e.2.1 with
            | zero => intro h1; cases h1
            | succ o =>
              intro h1 e1 hO
              have e1 : vget lv h (o / 2) = some (.int x) := e1
              obtain ⟨u, e5, e6⟩ := hO.1 (by omega)
              rw [e1] at e5
              cases e5
              rcases e6 with ⟨-, e6⟩ | ⟨a, b, e6, e7, e8, e9⟩
              · cases e6
              · cases e6
                cases e7
                omega
          refine hL.set e1 ⟨x, rfl, ?_, ?_⟩
          · show amax q.2.1 (t.2.1 - e.2.2.2.1) ≤ x.toInt
            unfold amax
            split <;> omega
          · show x.toInt ≤ amin q.2.2 (t.2.2 - e.2.2.2.1)
            unfold amin
            split <;> omega
      · exact hL
theorem okL.tell {g : Nat → Int} {ρ : List Nat} {lv : mL} {h : List mC} {L : aL} {e : aE} {v : Value} (hL : okL g ρ L lv h) (hE : hasE g ρ lv h e v) (hv : v ≠ .int 0) : okL g ρ (atell L e) lv h := by
  unfold atell
  cases ha : (Nat.beq (e.2.1 % 2) 0 && !Nat.beq e.2.1 0) with
  | false => exact hL
  | true =>
    obtain ⟨h1, h2⟩ := mand ha
    have h1 := mlen h1
    have hO := hE.2
    have : ∃ u, vget lv h (avar e.2.1) = some u ∧ hasT g ρ e.2.2 u := by
      unfold avar
      revert hO h1 h2
      cases e.2.1 with
      | zero => intro h2 h1; cases h2
      | succ o =>
        intro h2 h1 hO
        rcases hO.2 (by omega) with h3 | h3
        · exact absurd h3 hv
        · exact h3
    obtain ⟨u, e1, e2⟩ := this
    refine hL.set e1 ?_
    split
    · rename_i q hq
      obtain ⟨u2, e3, e4⟩ := hL.get hq
      rw [e1] at e3
      cases e3
      exact ameet_ok e4 e2
    · exact e2
/-! the measure: a constant and a sum of variables; what is left of it behind a change -/
def mval (lv : mL) (h : List mC) (E : aM) : Int := E.1 + (E.2.map (fun q => q.2 * vint lv h q.1)).sum
def aEt (B : aB) (L : aL) (C : Nat → Bool) (e : aE) (x : Nat) (q : Nat × Int) : Option aM :=
  bif Nat.beq q.1 x && (Nat.beq e.2.1 (2 * x + 1) && (arng B e.1).isSome) then some (0 - amax (q.2 * e.2.2.2.1) (q.2 * e.2.2.2.2), [q])
  else bif C q.1 then (match aget L q.1 with
    | some t => (match arng B t with | some r => some (amin (q.2 * r.1) (q.2 * r.2), []) | none => none)
    | none => none)
  else some (0, [q])
def aEup (B : aB) (L : aL) (C : Nat → Bool) (e : aE) (x : Nat) : List (Nat × Int) → Option aM
  | [] => some (0, [])
  | q :: qs => match aEt B L C e x q, aEup B L C e x qs with
    | some a, some b => some (a.1 + b.1, a.2 ++ b.2)
    | _, _ => none
section TM
variable {B : aB} {g : Nat → Int} {ρ : List Nat} {lv lv' : mL} {h h' : List mC} {L : aL} {C : Nat → Bool}
theorem aEt_ok {e : aE} {x : Nat} {q : Nat × Int} {a : aM} {v : Value} (hg : okG B g) (hL : okL g ρ L lv h) (hC : ∀ x, C x = false → vget lv' h' x = vget lv h x) (hE : hasE g ρ lv h e v) (hx : vget lv' h' x = some v ∨ e.2.1 = 0) (ha : aEt B L C e x q = some a) : mval lv' h' a ≤ q.2 * vint lv h q.1 := by
  unfold aEt at ha
  cases hb : (Nat.beq q.1 x && (Nat.beq e.2.1 (2 * x + 1) && (arng B e.1).isSome)) with
  | true =>
    rw [hb, cond_true] at ha
    cases ha
    obtain ⟨h1, h2⟩ := mand hb
    obtain ⟨h2, h3⟩ := mand h2
    have h1 := mlen h1
    have h2 := mlen h2
    obtain ⟨r, hr⟩ := Option.isSome_iff_exists.mp h3
    obtain ⟨y, rfl, -, -⟩ := arng_ok hg hr hE.1
    rcases hx with hx | hx
    · have hO := hE.2
      rw [h2] at hO
      obtain ⟨u, e1, e2⟩ := hO.1 (by omega)
      have e3 : 2 * x / 2 = x := by omega
      rw [e3] at e1
      rcases e2 with ⟨-, e2⟩ | ⟨z, y', rfl, e2, e4, e5⟩
      · cases e2
      · cases e2
        have v1 : vint lv h q.1 = z.toInt := by unfold vint; rw [h1, e1]
        have v2 : vint lv' h' q.1 = y.toInt := by unfold vint; rw [h1, hx]
        show 0 - amax (q.2 * e.2.2.2.1) (q.2 * e.2.2.2.2) + ([q].map (fun q => q.2 * vint lv' h' q.1)).sum ≤ _
        simp only [List.map_cons, List.map_nil, List.sum_cons, List.sum_nil]
        rw [v1, v2]
        have e6 := (mul_lo (c := q.2) (a := e.2.2.2.1) (b := e.2.2.2.2) (x := y.toInt - z.toInt) (by omega) (by omega)).2
        rw [Int.mul_sub] at e6
        omega
    · rw [hx] at h2
      omega
  | false =>
    rw [hb, cond_false] at ha
    cases hc : C q.1 with
    | true =>
      rw [hc, cond_true] at ha
      split at ha
      · rename_i t ht
        split at ha
        · rename_i r hr
          cases ha
          obtain ⟨v1, e1, e2⟩ := hL.get ht
          obtain ⟨z, rfl, e3, e4⟩ := arng_ok hg hr e2
          have v1 : vint lv h q.1 = z.toInt := by unfold vint; rw [e1]
          have := (mul_lo (c := q.2) e3 e4).1
          rw [v1]
          show amin (q.2 * r.1) (q.2 * r.2) + (List.map _ ([] : List (Nat × Int))).sum ≤ _
          simp only [List.map_nil, List.sum_nil]
          omega
        · cases ha
      · cases ha
    | false =>
      rw [hc, cond_false] at ha
      cases ha
      have v1 : vint lv' h' q.1 = vint lv h q.1 := by unfold vint; rw [hC _ hc]
      show 0 + ([q].map (fun q => q.2 * vint lv' h' q.1)).sum ≤ _
      simp only [List.map_cons, List.map_nil, List.sum_cons, List.sum_nil]
      rw [v1]
      omega
theorem aEup_ok {e : aE} {x : Nat} {v : Value} (hg : okG B g) (hL : okL g ρ L lv h) (hC : ∀ x, C x = false → vget lv' h' x = vget lv h x) (hE : hasE g ρ lv h e v) (hx : vget lv' h' x = some v ∨ e.2.1 = 0) : ∀ {qs : List (Nat × Int)} {a : aM}, aEup B L C e x qs = some a → mval lv' h' a ≤ (qs.map (fun q => q.2 * vint lv h q.1)).sum
  | [], a, ha => by cases ha; exact Int.le_refl _
  | q :: qs, a, ha => by
    unfold aEup at ha
    split at ha
    · rename_i a1 b1 h1 h2
      cases ha
      have e1 := aEt_ok hg hL hC hE hx h1
      have e2 := aEup_ok hg hL hC hE hx h2
      rw [List.map_cons, List.sum_cons]
      unfold mval at e1 e2 ⊢
      dsimp only
      rw [List.map_append, List.sum_append]
      omega
    · cases ha
end TM
/-- the least that a sum can be -/
def aadd1 (x : Nat) (c : Int) : List (Nat × Int) → List (Nat × Int)
  | [] => [(x, c)]
  | q :: qs => bif Nat.beq q.1 x then (x, q.2 + c) :: qs else q :: aadd1 x c qs
def anorm (l : List (Nat × Int)) : List (Nat × Int) := l.foldr (fun q r => aadd1 q.1 q.2 r) []
def alow (B : aB) (L : aL) : List (Nat × Int) → Option Int
  | [] => some 0
  | q :: qs => match alow B L qs with
    | none => none
    | some b => if q.2 = 0 then some b else (match aget L q.1 with
      | some t => (match arng B t with | some r => some (amin (q.2 * r.1) (q.2 * r.2) + b) | none => none)
      | none => none)
def alowE (B : aB) (L : aL) (E : aM) : Option Int := match alow B L (anorm E.2) with | some b => some (E.1 + b) | none => none
def aminus (E M : aM) : aM := (E.1 - M.1, E.2 ++ M.2.map (fun q => (q.1, 0 - q.2)))
section TN
variable {B : aB} {g : Nat → Int} {ρ : List Nat} {lv : mL} {h : List mC} {L : aL}
theorem aadd1_val {x : Nat} {c : Int} : ∀ (l : List (Nat × Int)), ((aadd1 x c l).map (fun q => q.2 * vint lv h q.1)).sum = c * vint lv h x + (l.map (fun q => q.2 * vint lv h q.1)).sum
  | [] => by simp [aadd1]
  | q :: qs => by
    unfold aadd1
    cases hb : Nat.beq q.1 x with
    | true =>
      have := mlen hb
      simp only [cond_true, List.map_cons, List.sum_cons, this, Int.add_mul]
      omega
    | false =>
      simp only [cond_false, List.map_cons, List.sum_cons, aadd1_val qs]
      omega
theorem anorm_val : ∀ (l : List (Nat × Int)), ((anorm l).map (fun q => q.2 * vint lv h q.1)).sum = (l.map (fun q => q.2 * vint lv h q.1)).sum
  | [] => rfl
  | q :: qs => by
    have e : anorm (q :: qs) = aadd1 q.1 q.2 (anorm qs) := rfl
    rw [e, aadd1_val, anorm_val qs, List.map_cons, List.sum_cons]
theorem alow_ok (hg : okG B g) (hL : okL g ρ L lv h) : ∀ {l : List (Nat × Int)} {b : Int}, alow B L l = some b → b ≤ (l.map (fun q => q.2 * vint lv h q.1)).sum
  | [], b, hb => by cases hb; exact Int.le_refl _
  | q :: qs, b, hb => by
    unfold alow at hb
    split at hb
    · cases hb
    · rename_i b1 h1
      have e1 := alow_ok hg hL h1
      rw [List.map_cons, List.sum_cons]
      split at hb
      · rename_i h0
        cases hb
        rw [h0, Int.zero_mul]
        omega
      · split at hb
        · rename_i t ht
          split at hb
          · rename_i r hr
            cases hb
            obtain ⟨v1, e2, e3⟩ := hL.get ht
            obtain ⟨z, rfl, e4, e5⟩ := arng_ok hg hr e3
            have v1 : vint lv h q.1 = z.toInt := by unfold vint; rw [e2]
            have := (mul_lo (c := q.2) e4 e5).1
            rw [v1]
            omega
          · cases hb
        · cases hb
theorem alowE_ok {E : aM} {b : Int} (hg : okG B g) (hL : okL g ρ L lv h) (hb : alowE B L E = some b) : b ≤ mval lv h E := by
  unfold alowE at hb
  split at hb
  · rename_i b1 h1
    cases hb
    have := alow_ok hg hL h1
    rw [anorm_val] at this
    unfold mval
    omega
  · cases hb
theorem aminus_val {E M : aM} : mval lv h (aminus E M) = mval lv h E - mval lv h M := by
  unfold mval aminus
  dsimp only
  rw [List.map_append, List.sum_append, List.map_map]
  have : ∀ l : List (Nat × Int), (l.map ((fun q => q.2 * vint lv h q.1) ∘ fun q : Nat × Int => (q.1, 0 - q.2))).sum = 0 - (l.map (fun q => q.2 * vint lv h q.1)).sum := by
    intro l
    induction l with
    | nil => rfl
    | cons q qs ih =>
      rw [List.map_cons, List.sum_cons, List.map_cons, List.sum_cons, ih]
      simp only [Function.comp]
      rw [Int.sub_mul]
      omega
  rw [this]
  omega
end TN
