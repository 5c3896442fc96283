def aBl4 : aB := aBl.set 4 (0, 59)
def sF1_61 : aAn := ([(0, (3, 30, 0)), (1, (1, 9, 0)), (2, a32)], [], (538, []))
def sF1_84 : aAn := ([(0, (3, 30, 0)), (1, (1, 9, 0)), (2, a32), (3, (0, 0, 12)), (1009, (0, 0, 12))], [], (400, []))
def sF1 : List (Nat × aAn) := [(61, sF1_61),
  (63, [(0, (3, 30, 0)), (1, (1, 9, 0)), (2, a32), (3, (0, 0, 12))], [], (536, [(3, -11)])),
  (84, sF1_84)]
set_option maxRecDepth 100000 in
theorem sF1_k : sF1.all (fun q => ([84] : List Nat).elem q.1 || ahead aBl rI0 (ctU ci_early) (alook []) [60] (some (7, 0, 0)) 5 (mgd 200 mtX11_fewest) (anaf sF1) 121 q.1) = true := by decide +kernel
theorem sF1_e61 : anaf sF1 61 = some sF1_61 := rfl
theorem sF1_e84 : anaf sF1 84 = some sF1_84 := rfl
def sF2_124 : aAn := ([(0, (3, 30, 0)), (1, (1, 9, 0)), (3, (1, 4, 0))], [], (424, []))
def sF2_166 : aAn := ([(0, (3, 30, 0)), (1, (1, 9, 0)), (3, (1, 4, 0))], [], (400, []))
def sF2 : List (Nat × aAn) := [(124, sF2_124),
  (165, [(0, (3, 30, 0)), (1, (1, 9, 0)), (3, (1, 4, 0))], [(a32, 0, a32), ((0, 0, 11), 0, a32), ((3, 60, 0), 2083, (0, 0, 0))], (401, [])),
  (166, sF2_166)]
set_option maxRecDepth 100000 in
theorem sF2_k : sF2.all (fun q => ([166] : List Nat).elem q.1 || ahead aBl4 rI0 (ctU ci_early) (alook []) [60] (some (7, 0, 0)) 5 (mgd 200 mtX11_fewest) (anaf sF2) 121 q.1) = true := by decide +kernel
theorem sF2_e124 : anaf sF2 124 = some sF2_124 := rfl
theorem sF2_e166 : anaf sF2 166 = some sF2_166 := rfl
/-! the reference's fewest -/
def cntF (xs : List Int32) (x : Int32) : Nat → Nat
  | 0 => 0
  | k + 1 => cntF xs x k + (if xs[k]? = some x then 1 else 0)
theorem cntF_mono {xs : List Int32} {x : Int32} {a b : Nat} (h : a ≤ b) : cntF xs x a ≤ cntF xs x b := by
  induction b with
  | zero => rw [Nat.le_zero.mp h]; exact Nat.le_refl _
  | succ b ih =>
    by_cases he : a = b + 1
    · rw [he]; exact Nat.le_refl _
    · have := ih (by omega)
      show _ ≤ cntF xs x b + _
      omega
theorem okH_4 {g : Nat → Int} {ρ : List Nat} {h : List mC} {w : Int} (hH : okH rI0 g ρ h) : okH rI0 (gup g 4 w) ρ h := okH_upd hH (fun k r R c _ _ a3 a4 => by
  have hr : r ∈ aspk 4 := aspk_ok a3 a4
  have hsp : aspk 4 = [] := by decide +kernel
  rw [hsp] at hr
  cases hr)
theorem okH_4' {g : Nat → Int} {ρ : List Nat} {h : List mC} {w : Int} (hH : okH rI0 (gup g 4 w) ρ h) : okH rI0 g ρ h := by
  have := okH_4 (w := g 4) hH
  rw [gup_gup, gup_same] at this
  exact this
theorem okG4 {g : Nat → Int} {w : Int} (hg : okG aBl g) (h0 : 0 ≤ w) (h1 : w ≤ 59) : okG aBl4 (gup g 4 w) := by
  intro p q hq
  by_cases hp : p = 4
  · subst hp
    have hq : some ((0, 59) : Int × Int) = some q := hq
    cases hq
    rw [gup_self]
    exact ⟨h0, h1⟩
  · unfold aBl4 at hq
    rw [List.getElem?_set_ne (fun e => hp e.symm)] at hq
    unfold gup
    rw [if_neg hp]
    exact hg p q hq
theorem okG4_60 : ∀ g, okG aBl4 g → okG aBl g := by
  intro g hg p q hq
  by_cases hp : p = 4
  · subst hp
    have hq : some ((0, 60) : Int × Int) = some q := hq
    cases hq
    have := hg 4 (0, 59) rfl
    have h1 : 0 ≤ g 4 := this.1
    have h2 : g 4 ≤ 59 := this.2
    exact ⟨h1, by show g 4 ≤ 60; omega⟩
  · refine hg p q ?_
    unfold aBl4
    rw [List.getElem?_set_ne (fun e => hp e.symm)]
    exact hq
theorem rn_back {ρ : List Nat} {m a b : Nat} (hm : ρ[m]? = some a) : (ρ.set m b).set m a = ρ := by
  rw [List.set_set]
  apply List.ext_getElem?
  intro k
  have hl : m < ρ.length := (List.getElem?_eq_some_iff.mp hm).1
  by_cases hk : m = k
  · subst hk
    rw [List.getElem?_set_self hl, hm]
  · rw [List.getElem?_set_ne hk]
theorem memRl {r : Nat} {R : aR} (h : rI0 r = some R) : some R ∈ aRl := by
  unfold rI0 at h
  split at h
  · rename_i q hq
    cases h
    exact List.mem_of_getElem? hq
  · cases h
/-- the reference's object takes a closer role for one field, and back -/
theorem okH_close {g : Nat → Int} {ρ : List Nat} {h : List mC} {m r r' j : Nat} {fts fts' : List aV} {fs : List Value} {t' : aV} {v : Value} (hgr : grp r' = grp r) (hno : anoI aRl r = true) (hm : ρ[m]? = some r) (hr : rI0 r = some (.inl (11, fts))) (hr' : rI0 r' = some (.inl (11, fts'))) (hf : fts' = fts.set j t') (hH : okH rI0 g ρ h) (hc : h[m]? = some (.inr (11, fs))) (hv : fs[j]? = some v) (ht : hasT g (ρ.set m r') t' v) : okH rI0 g (ρ.set m r') h := by
  refine okH_rn hgr hno hm hr' hH (fun c hcc => ?_)
  rw [hc] at hcc
  cases hcc
  obtain ⟨c0, d1, d2⟩ := hH.at hm hr
  rw [hc] at d1
  cases d1
  refine okC_fld d2 (by rw [hf, List.length_set]) (fun i t t2 w a1 a2 a3 a4 => ?_)
  rw [hf] at a2
  by_cases hj : j = i
  · subst hj
    rw [List.getElem?_set_self (List.getElem?_eq_some_iff.mp a1).1] at a2
    cases a2
    rw [hv] at a3
    cases a3
    exact ht
  · rw [List.getElem?_set_ne hj, a1] at a2
    cases a2
    refine hasT_rn hm ?_ a4
    have := List.all_eq_true.mp hno _ (memRl hr)
    exact List.all_eq_true.mp this t (List.mem_of_getElem? a1)
set_option maxRecDepth 10000 in
/-- fewestFrom from the first place on, whatever ownStrips is -/
theorem r_fewestFrom {d : Nat} (hall : CTall ci_early d) {g : Nat → Int} {ρ : List Nat} {m : Nat} {x : Int32} {h : mS} (hg : okG aBl g) (hH : okH rI0 g ρ h.1) (hm : ρ[m]? = some 30) : mR d 158 [.ref m, .int 0, .int x] h (fun r h' => ∃ v : Int32, r = some (.int v) ∧ okH rI0 g ρ h'.1 ∧ okFr ρ [41, 60] h h') := by
  obtain ⟨fs, c1, c2, c3⟩ := fld hH hm rM_eq
  obtain ⟨v0, c7, s, rfl, s1, s2⟩ := c3 42 (0, 0, 8) rfl
  have s1 : 0 ≤ s.toInt := s1
  have s2 : s.toInt ≤ 8 := s2
  have hl : m < ρ.length := (List.getElem?_eq_some_iff.mp hm).1
  have go : ∀ (n : Int) (r' : Nat) (fts' : List aV) (id : Nat) (ret : aV) (md : List Nat), s.toInt = n → grp r' = grp 30 → anoI aRl r' = true → rI0 r' = some (.inl (11, fts')) → fts' = rM.set 42 (0, n, n) → rM = fts'.set 42 (0, 0, 8) → ctU ci_early id = some (158, [(3, (r' : Int), 0), (0, 0, 0), a32], [], some (ret, 0, a32), md) → aint aBl ret = true → md.all (fun r => [41, 60].elem r) = true → r' ≠ 41 → r' ≠ 60 → mR d 158 [.ref m, .int 0, .int x] h (fun r h' => ∃ v : Int32, r = some (.int v) ∧ okH rI0 g ρ h'.1 ∧ okFr ρ [41, 60] h h') := by
    intro n r' fts' id ret md hn hgr hno hr hf hb hid hret hmd n41 n60
    have hH' : okH rI0 g (ρ.set m r') h.1 := okH_close hgr no30 hm rM_eq hr hf hH c1 c7 ⟨s, rfl, by show n ≤ s.toInt; omega, by show s.toInt ≤ n; omega⟩
    have hm' : (ρ.set m r')[m]? = some r' := List.getElem?_set_self hl
    obtain ⟨r, h', e1, e2, e3, v, rfl, hv, -⟩ := hall id _ hid g (ρ.set m r') [.ref m, .int 0, .int x] h hg hH' ⟨⟨m, rfl, hm'⟩, ⟨0, rfl, by decide, by decide⟩, a32_ok x, trivial⟩ (fun q hq => by cases hq)
    obtain ⟨z, rfl⟩ := aint_ok hg hret hv
    have e3 := e3.mono (md' := [41, 60]) hmd
    have hcm : h'.1[m]? = some (.inr (11, fs)) := by
      rw [e3.1 m r' hm' (by intro q; rcases List.mem_cons.mp q with q | q; exact n41 q; rcases List.mem_cons.mp q with q | q; exact n60 q; cases q)]
      exact c1
    have hbk : okH rI0 g ((ρ.set m r').set m 30) h'.1 := okH_close hgr.symm hno hm' hr rM_eq hb e2 hcm c7 ⟨s, rfl, s1, s2⟩
    rw [rn_back hm] at hbk
    have fr : ∀ k rr : Nat, ρ[k]? = some rr → rr ∉ [41, 60] → h'.1[k]? = h.1[k]? := fun k rr q1 q2 => by
      by_cases hk : m = k
      · subst hk
        rw [hcm, c1]
      · exact e3.1 k rr (by rw [List.getElem?_set_ne hk]; exact q1) q2
    refine ⟨_, _, e1, z, rfl, hbk, fr, e3.2.1, Or.inr (RR.of (fun k rr q1 q2 => fr k rr q1 (by rcases q2 with q2 | q2 | q2 <;> rw [q2] <;> decide)) (fun k q => by rw [fr k 30 q (by decide)]))⟩
  rcases (show s.toInt = 0 ∨ s.toInt = 1 ∨ s.toInt = 2 ∨ s.toInt = 3 ∨ s.toInt = 4 ∨ s.toInt = 5 ∨ s.toInt = 6 ∨ s.toInt = 7 ∨ s.toInt = 8 by omega) with q | q | q | q | q | q | q | q | q
  · exact go 0 70 _ ci_fewestFrom0_0 _ _ q rfl (by decide +kernel) rfl rfl rfl rfl rfl rfl (by decide) (by decide)
  · exact go 1 71 _ ci_fewestFrom1_0 _ _ q rfl (by decide +kernel) rfl rfl rfl rfl rfl rfl (by decide) (by decide)
  · exact go 2 72 _ ci_fewestFrom2_0 _ _ q rfl (by decide +kernel) rfl rfl rfl rfl rfl rfl (by decide) (by decide)
  · exact go 3 73 _ ci_fewestFrom3_0 _ _ q rfl (by decide +kernel) rfl rfl rfl rfl rfl rfl (by decide) (by decide)
  · exact go 4 74 _ ci_fewestFrom4_0 _ _ q rfl (by decide +kernel) rfl rfl rfl rfl rfl rfl (by decide) (by decide)
  · exact go 5 75 _ ci_fewestFrom5_0 _ _ q rfl (by decide +kernel) rfl rfl rfl rfl rfl rfl (by decide) (by decide)
  · exact go 6 76 _ ci_fewestFrom6_0 _ _ q rfl (by decide +kernel) rfl rfl rfl rfl rfl rfl (by decide) (by decide)
  · exact go 7 77 _ ci_fewestFrom7_0 _ _ q rfl (by decide +kernel) rfl rfl rfl rfl rfl rfl (by decide) (by decide)
  · exact go 8 78 _ ci_fewestFrom8_0 _ _ q rfl (by decide +kernel) rfl rfl rfl rfl rfl rfl (by decide) (by decide)
