def aBl7 : aB := aBl.set 6 (0, 7)
def so1_0 : aAn := ([(0, (3, 18, 0)), (1, (3, 25, 0))], [], (590, []))
def so1_28 : aAn := ([(0, (3, 18, 0)), (1, (3, 25, 0)), (2, (0, 0, 7)), (1004, (0, 0, 7))], [], (500, []))
def so1 : List (Nat × aAn) := [(0, so1_0),
  (2, [(0, (3, 18, 0)), (1, (3, 25, 0)), (2, (0, 0, 7))], [], (588, [(2, -12)])),
  (28, so1_28)]
set_option maxRecDepth 100000 in
theorem so1_k : so1.all (fun q => ([28] : List Nat).elem q.1 || ahead aBl7 rI0 (ctU ci_early) (alook []) [] (some (2, 6, -1)) 3 (mgd 78 mtX2_ownerOf) (anaf so1) 48 q.1) = true := by decide +kernel
theorem so1_e0 : anaf so1 0 = some so1_0 := rfl
theorem so1_e28 : anaf so1 28 = some so1_28 := rfl
def so2_38 : aAn := ([(0, (3, 18, 0)), (1, (3, 25, 0))], [], (413, []))
def so2_61 : aAn := ([(0, (3, 18, 0)), (1, (3, 25, 0))], [], (400, []))
def so2 : List (Nat × aAn) := [(38, so2_38),
  (61, so2_61)]
set_option maxRecDepth 100000 in
theorem so2_k : so2.all (fun q => ([61] : List Nat).elem q.1 || ahead aBl7 rI0 (ctU ci_early) (alook []) [20, 21] (some (7, 0, 0)) 3 (mgd 78 mtX2_ownerOf) (anaf so2) 48 q.1) = true := by decide +kernel
theorem so2_e38 : anaf so2 38 = some so2_38 := rfl
theorem so2_e61 : anaf so2 61 = some so2_61 := rfl
def sg1_42 : aAn := ([(0, (3, 18, 0)), (1, (3, 23, 0)), (2, (3, 26, 0)), (3, (2, 6, -1)), (1005, (0, 0, 7))], [], (9424, []))
def sg1_78 : aAn := ([(0, (3, 18, 0)), (1, (3, 23, 0)), (2, (3, 26, 0)), (3, (2, 6, -1)), (1005, (0, 0, 7))], [], (9400, []))
def sg1 : List (Nat × aAn) := [(42, sg1_42),
  (78, sg1_78)]
set_option maxRecDepth 100000 in
theorem sg1_k : sg1.all (fun q => ([78] : List Nat).elem q.1 || ahead aBl rI0 (ctU ci_early) (alook [(60, 74), (74, 74)]) [20, 21, 22] (some (7, 0, 0)) 4 (mgd 114 mtX2_gather) (anaf sg1) 69 q.1) = true := by decide +kernel
theorem sg1_e42 : anaf sg1 42 = some sg1_42 := rfl
theorem sg1_e78 : anaf sg1 78 = some sg1_78 := rfl
def sg2_20 : aAn := ([(0, (3, 18, 0)), (1, (3, 23, 0)), (2, (4, 26, 0)), (1005, (1, 9, 0))], [], (400, []))
def sg2_88 : aAn := ([(0, (3, 18, 0)), (1, (3, 23, 0)), (2, (3, 26, 0)), (1005, (1, 9, 0))], [], (413, []))
def sg2 : List (Nat × aAn) := [(20, sg2_20),
  (88, sg2_88),
  (105, [(0, (3, 18, 0)), (1, (3, 23, 0)), (2, (3, 26, 0)), (1005, (1, 9, 0))], [], (404, []))]
set_option maxRecDepth 100000 in
theorem sg2_k : sg2.all (fun q => ([20] : List Nat).elem q.1 || ahead aBl rI0 (ctU ci_early) (alook [(89, 33)]) [18] (some (7, 0, 0)) 4 (mgd 114 mtX2_gather) (anaf sg2) 69 q.1) = true := by decide +kernel
theorem sg2_e20 : anaf sg2 20 = some sg2_20 := rfl
theorem sg2_e88 : anaf sg2 88 = some sg2_88 := rfl
/-! the Deal: gather and ownerOf -/
theorem okL.cons {g : Nat → Int} {ρ : List Nat} {L : aL} {lv : mL} {h : List mC} {x : Nat} {t : aV} {v : Value} (h1 : vget lv h x = some v) (h2 : hasT g ρ t v) (hL : okL g ρ L lv h) : okL g ρ ((x, t) :: L) lv h := by
  intro q hq
  rcases List.mem_cons.mp hq with rfl | hq
  · exact ⟨v, h1, h2⟩
  · exact hL q hq
theorem okL.nil {g : Nat → Int} {ρ : List Nat} {lv : mL} {h : List mC} : okL g ρ [] lv h := fun q hq => by cases hq
theorem okG7 {g : Nat → Int} (hg : okG aBl g) (h7 : g 6 ≤ 7) : okG aBl7 g := by
  intro p q hq
  by_cases hp : p = 6
  · subst hp
    have hq : some ((0, 7) : Int × Int) = some q := hq
    cases hq
    have := hg 6 (0, 8) rfl
    exact ⟨this.1, h7⟩
  · unfold aBl7 at hq
    rw [List.getElem?_set_ne (fun e => hp e.symm)] at hq
    exact hg p q hq
theorem okG7_8 : ∀ g, okG aBl7 g → okG aBl g := by
  intro g hg p q hq
  by_cases hp : p = 6
  · subst hp
    have hq : some ((0, 8) : Int × Int) = some q := hq
    cases hq
    have := hg 6 (0, 7) rfl
    have h1 : 0 ≤ g 6 := this.1
    have h2 : g 6 ≤ 7 := this.2
    exact ⟨h1, by show g 6 ≤ 8; omega⟩
  · refine hg p q ?_
    unfold aBl7
    rw [List.getElem?_set_ne (fun e => hp e.symm)]
    exact hq
theorem lvall (l : mL) (h : l.all (fun q => mone q.2) = true) : ∀ q ∈ l, mone q.2 = true := List.all_eq_true.mp h
def OP (g : Nat → Int) (ρ : List Nat) (m : Nat) (h : mS) : Option Value → mS → Prop := fun r h' => ∃ (v : Int32) (n' : Int), r = some (.int v) ∧ okH rI0 (gup g 6 n') ρ h'.1 ∧ okFr ρ [18, 19, 20, 21] h h' ∧ g 6 ≤ n' ∧ n' ≤ g 6 + 1 ∧ 0 ≤ v.toInt ∧ v.toInt < n' ∧ (∀ fs, h.1[m]? = some (.inr (2, fs)) → ∃ fs', h'.1[m]? = some (.inr (2, fs')) ∧ fs'[5]? = fs[5]?)
theorem gup_same {g : Nat → Int} {p : Nat} : gup g p (g p) = g := by
  funext q
  unfold gup
  split
  · rename_i e; rw [e]
  · rfl
def rD : List aV := rOf 18
theorem rD_eq : rI0 18 = some (.inl (2, rD)) := rfl
theorem okFr.mono {ρ md md' : List Nat} {h h' : mS} (hf : okFr ρ md h h') (hm : md.all (fun r => md'.elem r) = true) : okFr ρ md' h h' := ⟨fun k r x y => hf.1 k r x (fun hh => y (elem_mem (List.all_eq_true.mp hm r hh))), hf.2.1, hf.2.2.imp (fun z => List.all_eq_true.mp hm 53 (elem_mem z)) (fun z => z)⟩
theorem one_of {g : Nat → Int} {ρ : List Nat} {h : List mC} {k m r : Nat} (hH : okH rI0 g ρ h) (hk : ρ[k]? = some r) (hm : ρ[m]? = some r) (hr : grp r ≠ 0) : k = m := hH.2.2 k m r r hk hm rfl hr
set_option maxRecDepth 10000 in
set_option maxHeartbeats 1000000 in
theorem r_ownerOf {d : Nat} (hall : CTall ci_early d) {g : Nat → Int} {ρ : List Nat} {m k : Nat} {h : mS} (hg : okG aBl g) (hH : okH rI0 g ρ h.1) (hm : ρ[m]? = some 18) (hk : ρ[k]? = some 25) (h7 : g 6 ≤ 7) : mR (d + 1) 10 [.ref m, .ref k] h (OP g ρ m h) := by
  have hg7 := okG7 hg h7
  have hg6 : 0 ≤ g 6 := (hg 6 (0, 8) rfl).1
  have hct7 : ∀ i q, ctU ci_early i = some q → CT rI0 aBl7 d q := fun i q hq => (hall i q hq).nar okG7_8
  -- the end: ownerCount++ and its answer
  have e61 : ∀ (h2 : mS) (lv : mL), okH rI0 g ρ h2.1 → okFr ρ [18, 19, 20, 21] h h2 → mget lv 0 = some (.ref m) → (∀ (o : Nat) (qs : List (Option Nat)), ρ[o]? = some 19 → h2.1[o]? = some (.inl (2, .inr qs)) → ∃ k, qs[(g 6).toNat]? = some (some k)) → (∀ fs, h.1[m]? = some (.inr (2, fs)) → h2.1[m]? = some (.inr (2, fs))) → mE (mcall d) none 3 (mgd 78 mtX2_ownerOf) 400 (61, lv, [], h2) (fun r h' => mretok (some .int) r = true ∧ OP g ρ m h r h') := by
    intro h2 lv hH2 hF2 g0 hown hsame
    obtain ⟨fs, c1, c2, c3⟩ := fld hH2 hm rD_eq
    obtain ⟨v4, d1, n0, rfl, d2⟩ := c3 4 (1, 6, 0) rfl
    have d2 : n0.toInt = g 6 + 0 := d2
    have e1 : (1 : Int32).toInt = 1 := by decide
    have d3 : (n0 + 1).toInt = n0.toInt + 1 := by rw [add_id (by omega) (by omega), e1]
    have hl4 : 4 < fs.length := (List.getElem?_eq_some_iff.mp d1).1
    have hlm : m < h2.1.length := (List.getElem?_eq_some_iff.mp c1).1
    refine mE_aldn 62 rfl g0 rfl rfl ?_
    refine mE_dup 63 rfl rfl rfl ?_
    refine mE_gf 66 rfl rfl c1 d1 rfl ?_
    refine mE_ico 67 1 rfl rfl rfl ?_
    refine mE_iadd 68 (n0 + 1) rfl rfl rfl ?_
    refine mE_pf 71 rfl c1 (by show (true && Nat.blt 4 fs.length) = true; rw [Nat.blt_eq.mpr hl4]; rfl) rfl ?_
    refine mE_aldn 72 rfl g0 rfl rfl ?_
    refine mE_gf 75 rfl rfl (List.getElem?_set_self hlm) (List.getElem?_set_self hl4) rfl ?_
    refine mE_ico 76 1 rfl rfl rfl ?_
    refine mE_isub 77 (n0 + 1 - 1) rfl rfl rfl ?_
    have d4 : (n0 + 1 - 1).toInt = n0.toInt := by rw [sub_id (by omega) (by omega), d3, e1]; omega
    refine mE_iret rfl ⟨rfl, n0 + 1 - 1, g 6 + 1, rfl, ?_, ?_, by omega, by omega, by omega, by omega, ?_⟩
    · have hcm : okC (gup g 6 (g 6 + 1)) ρ (.inl (2, rD)) (.inr (2, fs.set 4 (.int (n0 + 1)))) := by
        refine ⟨_, rfl, by rw [List.length_set]; exact c2, fun j t v a1 a2 => ?_⟩
        by_cases hj : 4 = j
        · subst hj
          rw [List.getElem?_set_self hl4] at a2
          cases a2
          have a1 : some ((1, 6, 0) : aV) = some t := a1
          cases a1
          exact ⟨_, rfl, by show (n0 + 1).toInt = gup g 6 (g 6 + 1) 6 + 0; rw [gup_self]; omega⟩
        · rw [List.getElem?_set_ne hj] at a2
          obtain ⟨v', b1, b2⟩ := c3 j t a1
          rw [a2] at b1
          cases b1
          refine hasT_upd ?_ b2
          match j, hj with
          | 0, _ => cases a1; rfl
          | 1, _ => cases a1; rfl
          | 2, _ => cases a1; rfl
          | 3, _ => cases a1; rfl
          | 5, _ => cases a1; rfl
          | 6, _ => cases a1; rfl
          | 7, _ => cases a1; rfl
          | j + 8, _ => cases a1
          | 4, hj => exact absurd rfl hj
      refine okH_updset hH2 hm rD_eq hcm (fun k2 r R c hne a1 a2 a3 a4 => ?_)
      have hr : r ∈ aspk 6 := aspk_ok a3 a4
      have hsp : aspk 6 = [18, 19] := by decide +kernel
      rw [hsp] at hr
      rcases List.mem_cons.mp hr with rfl | hr
      · exact absurd (one_of hH2 a1 hm (by decide)) hne
      · rcases List.mem_cons.mp hr with rfl | hr
        · have a3 : some ((.inr (.inr (2, 8, 25, 8))) : aR) = some R := a3
          cases a3
          obtain ⟨c', b1, qs, rfl, b2, b3⟩ := hH2.at a1 (R := .inr (.inr (2, 8, 25, 8))) rfl
          rw [a2] at b1
          cases b1
          refine ⟨qs, rfl, b2, fun j q b4 => ?_⟩
          rcases b3 j q b4 with ⟨rfl, b5⟩ | b5
          · refine Or.inl ⟨rfl, ?_⟩
            have b5 : g 6 ≤ (j : Int) := b5
            show gup g 6 (g 6 + 1) 6 ≤ (j : Int)
            rw [gup_self]
            by_cases hj : (j : Int) = g 6
            · obtain ⟨k3, b6⟩ := hown k2 qs a1 a2
              rw [show (g 6).toNat = j by omega, b4] at b6
              cases b6
            · omega
          · exact Or.inr b5
        · cases hr
    · exact hF2.trans (okFr.set okFr.rfl hm (by decide))
    · intro fs0 hf0
      have := hsame fs0 hf0
      rw [c1] at this
      cases this
      exact ⟨_, List.getElem?_set_self hlm, List.getElem?_set_ne (by omega)⟩
  -- the array's new owner
  have e28 : ∀ (h2 : mS) (lv : mL) (k : Nat), h2 = h → ρ[k]? = some 25 → mget lv 0 = some (.ref m) → mget lv 1 = some (.ref k) → (∀ q ∈ lv, mone q.2 = true) → mE (mcall d) none 3 (mgd 78 mtX2_ownerOf) 420 (28, lv, [], h2) (fun r h' => mretok (some .int) r = true ∧ OP g ρ m h r h') := by
    intro h2 lv k hh hk g0 g1 g3
    subst hh
    obtain ⟨fs, c1, c2, c3⟩ := fld hH hm rD_eq
    obtain ⟨v4, d1, n0, rfl, d2⟩ := c3 4 (1, 6, 0) rfl
    have d2 : n0.toInt = g 6 + 0 := d2
    obtain ⟨v0, d3, o, rfl, d4⟩ := c3 0 (3, 19, 0) rfl
    have d4 : ρ[o]? = some 19 := d4
    obtain ⟨cO, o1, qs, rfl, o2, o3⟩ := hH.at d4 (R := .inr (.inr (2, 8, 25, 8))) rfl
    obtain ⟨fk, k1, -, -⟩ := fld hH hk (show rI0 25 = some (.inl (4, rOf 25)) from rfl)
    have e0 : (0 : Int32).toInt = 0 := by decide
    have en : n0.toNatClampNeg = (g 6).toNat := by
      show n0.toInt.toNat = _
      rw [d2]
      congr 1
      omega
    have hol : o < h2.1.length := (List.getElem?_eq_some_iff.mp o1).1
    have hmo : o ≠ m := fun e => by subst e; rw [hm] at d4; cases d4
    refine mE_aldn 29 rfl g0 rfl rfl ?_
    refine mE_gf 32 rfl rfl c1 d3 rfl ?_
    refine mE_aldn 33 rfl g0 rfl rfl ?_
    refine mE_gf 36 rfl rfl c1 d1 rfl ?_
    refine mE_aldn 37 rfl g1 rfl rfl ?_
    refine mE_qsa 38 (g 6).toNat rfl o1 k1 rfl en (by
      rintro (q | q)
      · have := Int32.lt_iff_toInt_lt.mp q; omega
      · omega) rfl ?_
    have hH2 : okH rI0 g ρ (h2.1.set o (.inl (2, .inr (qs.set (g 6).toNat (some k))))) := by
      refine hH.set d4 (R := .inr (.inr (2, 8, 25, 8))) rfl ⟨_, rfl, by rw [List.length_set]; exact o2, fun j q hj => ?_⟩
      by_cases he : (g 6).toNat = j
      · subst he
        rw [List.getElem?_set_self (by rw [o2]; omega)] at hj
        cases hj
        exact Or.inr ⟨k, rfl, hk⟩
      · rw [List.getElem?_set_ne he] at hj
        exact o3 j q hj
    have hF2 : okFr ρ [18, 19, 20, 21] h2 (h2.1.set o (.inl (2, .inr (qs.set (g 6).toNat (some k)))), h2.2) := okFr.set okFr.rfl d4 (by decide)
    -- left and holding: by types
    have hex : ∀ (pc : Nat) (A : aAn) (mm : Int), anaf so2 pc = some A → pc ∈ [61] → Gs rI0 g ρ [20, 21] (h2.1.set o (.inl (2, .inr (qs.set (g 6).toNat (some k)))), h2.2) d 3 (mgd 78 mtX2_ownerOf) (fun r h' => mretok (some .int) r = true ∧ OP g ρ m h2 r h') 0 mm (pc, A) := by
      intro pc A mm hA hpc
      rcases List.mem_cons.mp hpc with rfl | hpc
      · rw [so2_e61] at hA
        cases hA
        intro lv2 st2 h3 hS _
        have hst := hS.2.2.1.nil
        subst hst
        obtain ⟨v, q1, m', rfl, q3⟩ := hS.2.1.get (x := 0) (t := (3, 18, 0)) rfl
        have q1 : mget lv2 0 = some (.ref m') := q1
        have q3 : ρ[m']? = some 18 := q3
        have hmm : m' = m := one_of hS.1 q3 hm (by decide)
        subst hmm
        refine ⟨400, Int.le_refl _, ?_⟩
        refine e61 h3 lv2 hS.1 (hF2.trans (hS.2.2.2.2.mono rfl)) q1 (fun o' qs' a1 a2 => ?_) (fun fs0 a1 => ?_)
        · have hoo : o' = o := one_of hS.1 a1 d4 (by decide)
          subst hoo
          rw [hS.2.2.2.2.1 o' 19 d4 (by decide)] at a2
          rw [show ((h2.1.set o' (.inl (2, .inr (qs.set (g 6).toNat (some k)))), h2.2) : mS).1[o']? = some (.inl (2, .inr (qs.set (g 6).toNat (some k)))) from List.getElem?_set_self hol] at a2
          cases a2
          exact ⟨k, List.getElem?_set_self (by rw [o2]; omega)⟩
        · rw [hS.2.2.2.2.1 m' 18 hm (by decide)]
          show (h2.1.set o _)[m']? = _
          rw [List.getElem?_set_ne hmo]
          exact a1
      · cases hpc
    have G := seg_ok (rt := some (7, 0, 0)) (Int.le_refl 0) hg7 hct7 (fun r h' _ _ q => by obtain ⟨v, -, hv⟩ := q; exact hv.elim) so2_k hex
    obtain ⟨b, hb, kE⟩ := G _ 38 _ so2_e38 lv [] _ ⟨hH2, okL.cons (v := .ref m) g0 ⟨m, rfl, hm⟩ (okL.cons (v := .ref k) g1 ⟨k, rfl, hk⟩ okL.nil), trivial, g3, okFr.rfl⟩ (Int.le_refl _)
    have hb : (b : Int) ≤ 413 + 0 + 0 := hb
    exact mE_le kE (by omega)
  have hex : ∀ (pc : Nat) (A : aAn) (mm : Int), anaf so1 pc = some A → pc ∈ [28] → Gs rI0 g ρ [] h d 3 (mgd 78 mtX2_ownerOf) (fun r h' => mretok (some .int) r = true ∧ OP g ρ m h r h') 0 mm (pc, A) := by
    intro pc A mm hA hpc
    rcases List.mem_cons.mp hpc with rfl | hpc
    · rw [so1_e28] at hA
      cases hA
      intro lv2 st2 h3 hS _
      have hst := hS.2.2.1.nil
      subst hst
      obtain ⟨v, q1, m', rfl, q3⟩ := hS.2.1.get (x := 0) (t := (3, 18, 0)) rfl
      obtain ⟨v, r1, k', rfl, r3⟩ := hS.2.1.get (x := 1) (t := (3, 25, 0)) rfl
      have q3 : ρ[m']? = some 18 := q3
      have hmm : m' = m := one_of hS.1 q3 hm (by decide)
      subst hmm
      exact ⟨420, by show (420 : Int) ≤ 500 + 0 + 0; omega, e28 h3 lv2 k' (same_of hH hS.1 hS.2.2.2.2) r3 q1 r1 hS.2.2.2.1⟩
    · cases hpc
  have G := seg_ok (rt := some (2, 6, -1)) (Int.le_refl 0) hg7 hct7 (fun r h' q1 q2 q3 => by
    obtain ⟨v, rfl, x, rfl, x1, x2⟩ := q3
    have x2 : x.toInt ≤ g 6 + -1 := x2
    have hs := same_of hH q1 q2
    subst hs
    exact ⟨rfl, x, g 6, rfl, by rw [gup_same]; exact q1, okFr.rfl, by omega, by omega, x1, by omega, fun fs hf => ⟨fs, hf, rfl⟩⟩) so1_k hex
  refine mR_ix [(0, .ref m), (1, .ref k)] rfl rfl rfl ?_
  obtain ⟨b, hb, kE⟩ := G _ 0 _ so1_e0 [(0, .ref m), (1, .ref k)] [] h ⟨hH, okL.cons (v := .ref m) rfl ⟨m, rfl, hm⟩ (okL.cons (v := .ref k) rfl ⟨k, rfl, hk⟩ okL.nil), trivial, lvall _ rfl, okFr.rfl⟩ (Int.le_refl _)
  have hb : (b : Int) ≤ 590 + 0 + 0 := hb
  exact mE_le kE (by show b ≤ 1000000000000; omega)
def rS : List aV := rOf 26
theorem rS_eq : rI0 26 = some (.inl (7, rS)) := rfl
theorem gup_gup {g : Nat → Int} {p : Nat} {a b : Int} : gup (gup g p a) p b = gup g p b := by
  funext q
  unfold gup
  split <;> rfl
theorem okH_9 {g : Nat → Int} {ρ : List Nat} {h : List mC} {w : Int} (hH : okH rI0 g ρ h) : okH rI0 (gup g 9 w) ρ h := okH_upd hH (fun k r R c _ _ a3 a4 => by
  have hr : r ∈ aspk 9 := aspk_ok a3 a4
  have hsp : aspk 9 = [] := by decide +kernel
  rw [hsp] at hr
  cases hr)
theorem okH_9' {g : Nat → Int} {ρ : List Nat} {h : List mC} {w : Int} (hH : okH rI0 (gup g 9 w) ρ h) : okH rI0 g ρ h := by
  have := okH_9 (w := g 9) hH
  rw [gup_gup, gup_same] at this
  exact this
/-- what gather leaves -/
def GP (g : Nat → Int) (ρ : List Nat) (h : mS) : Option Value → mS → Prop := fun r h' => r = none ∧ ∃ n' : Int, okH rI0 (gup g 6 n') ρ h'.1 ∧ okFr ρ [18, 19, 20, 21, 22] h h' ∧ 0 ≤ n' ∧ n' ≤ 8
theorem okG_up {g : Nat → Int} {p : Nat} {w : Int} {q : Int × Int} (hg : okG aBl g) (hp : aBl[p]? = some q) (h1 : q.1 ≤ w) (h2 : w ≤ q.2) : okG aBl (gup g p w) := by
  intro p' q' hq
  unfold gup
  split
  · rename_i e
    rw [e, hp] at hq
    cases hq
    exact ⟨h1, h2⟩
  · exact hg p' q' hq
set_option maxRecDepth 10000 in
set_option maxHeartbeats 2000000 in
theorem r_gather {d : Nat} (hall : CTall ci_early d) {g : Nat → Int} {ρ : List Nat} {m f : Nat} {h : mS} (hg : okG aBl g) (hH : okH rI0 g ρ h.1) (hm : ρ[m]? = some 18) (hf : ρ[f]? = some 23) : mR (d + 2) 9 [.ref m, .ref f] h (GP g ρ h) := by
  have hall1 : CTall ci_early (d + 1) := hall.le (by omega)
  have e0 : (0 : Int32).toInt = 0 := by decide
  have e1 : (1 : Int32).toInt = 1 := by decide
  have e8 : (8 : Int32).toInt = 8 := by decide
  -- the loop, by the size
  have key : ∀ (k : Nat) (h2 : mS) (lv : mL) (n s : Int) (x : Int32) (fs : List Value) (w : Value) (f : Nat), ρ[f]? = some 23 → okH rI0 (gup g 6 n) ρ h2.1 → okFr ρ [18, 19, 20, 21, 22] h h2 → 0 ≤ n → n ≤ s → s + k = 8 → h2.1[m]? = some (.inr (2, fs)) → fs[5]? = some (.int x) → x.toInt = s → mget lv 0 = some (.ref m) → mget lv 1 = some (.ref f) → mget lv 2 = some w → hasT (gup g 6 n) ρ (4, 26, 0) w → (∀ q ∈ lv, mone q.2 = true) → mE (mcall (d + 1)) none 4 (mgd 114 mtX2_gather) (9500 * k + 300) (20, lv, [], h2) (fun r h' => mretok none r = true ∧ GP g ρ h r h') := by
    intro k
    induction k with
    | zero =>
      intro h2 lv n s x fs w f hf hH2 hF2 n0 ns hs c1 c5 hx g0 g1 g2 hw g3
      refine mE_aldn 21 rfl g2 (by rcases hw with rfl | ⟨k, rfl, -⟩ <;> rfl) rfl ?_
      rcases hw with rfl | ⟨k, rfl, hk⟩
      · refine mE_nul_n 113 rfl rfl ?_
        exact mE_vret rfl ⟨rfl, rfl, n, hH2, hF2, n0, by omega⟩
      · refine mE_nul_r 24 rfl rfl ?_
        refine mE_aldn 25 rfl g0 rfl rfl ?_
        refine mE_gf 28 rfl rfl c1 c5 rfl ?_
        refine mE_bip 30 8 rfl rfl rfl ?_
        refine mE_ic_ge_t 113 rfl (Int32.le_iff_toInt_le.mpr (by omega)) rfl ?_
        exact mE_vret rfl ⟨rfl, rfl, n, hH2, hF2, n0, by omega⟩
    | succ k ih =>
      intro h2 lv n s x fs w f hf hH2 hF2 n0 ns hs c1 c5 hx g0 g1 g2 hw g3
      have hgn : okG aBl (gup g 6 n) := okG_up hg rfl n0 (by show n ≤ 8; omega)
      refine mE_aldn 21 rfl g2 (by rcases hw with rfl | ⟨k, rfl, -⟩ <;> rfl) rfl ?_
      rcases hw with rfl | ⟨st, rfl, hst⟩
      · refine mE_nul_n 113 rfl rfl ?_
        exact mE_vret rfl ⟨rfl, rfl, n, hH2, hF2, n0, by omega⟩
      · have hst : ρ[st]? = some 26 := hst
        refine mE_nul_r 24 rfl rfl ?_
        refine mE_aldn 25 rfl g0 rfl rfl ?_
        refine mE_gf 28 rfl rfl c1 c5 rfl ?_
        refine mE_bip 30 8 rfl rfl rfl ?_
        refine mE_ic_ge_f 33 rfl (fun q => by have := Int32.le_iff_toInt_le.mp q; omega) rfl ?_
        refine mE_aldn 34 rfl g0 rfl rfl ?_
        refine mE_aldn 35 rfl g2 rfl rfl ?_
        obtain ⟨fst, t1, -, t3⟩ := fld hH2 hst rS_eq
        obtain ⟨v5, t5, hh, rfl, t6⟩ := t3 5 (3, 25, 0) rfl
        have t6 : ρ[hh]? = some 25 := t6
        refine mE_gf 38 rfl rfl t1 t5 rfl ?_
        refine mE_cv [.ref hh] [] rfl rfl rfl rfl c1 rfl ?_
        obtain ⟨r, h3, o1, v, n', rfl, o3, o4, o5, o6, o7, o8, o9⟩ := r_ownerOf hall hgn hH2 hm t6 (by rw [gup_self]; omega)
        rw [gup_self] at o5 o6
        rw [gup_gup] at o3
        refine ⟨_, _, o1, ?_⟩
        obtain ⟨fs3, p1, p5⟩ := o9 fs c1
        rw [c5] at p5
        have hgn' : okG aBl (gup g 6 n') := okG_up hg rfl (by show 0 ≤ n'; omega) (by show n' ≤ 8; omega)
        refine p_ist rfl rfl g3 (fun lv3 r1 r2 r3 => ?_)
        have s0 : mget lv3 0 = some (.ref m) := by rw [r2 0 (by decide)]; exact g0
        have s1 : mget lv3 1 = some (.ref f) := by rw [r2 1 (by decide)]; exact g1
        have s2 : mget lv3 2 = some (.ref st) := by rw [r2 2 (by decide)]; exact g2
        -- behind the arrays: size++
        have hex : ∀ (pc : Nat) (A : aAn) (mm : Int), anaf sg1 pc = some A → pc ∈ [78] → Gs rI0 (gup g 6 n') ρ [20, 21, 22] h3 (d + 1) 4 (mgd 114 mtX2_gather) (fun r h' => mretok none r = true ∧ GP g ρ h r h') (9500 * k + 300) mm (pc, A) := by
          intro pc A mm hA hpc
          rcases List.mem_cons.mp hpc with rfl | hpc
          rotate_left
          · cases hpc
          rw [sg1_e78] at hA
          cases hA
          intro lv4 st4 h4 hS _
          have hst4 := hS.2.2.1.nil
          subst hst4
          obtain ⟨v, q1, m', rfl, q3⟩ := hS.2.1.get (x := 0) (t := (3, 18, 0)) rfl
          obtain ⟨v, u1, f', rfl, u3⟩ := hS.2.1.get (x := 1) (t := (3, 23, 0)) rfl
          obtain ⟨v, w1, st', rfl, w3⟩ := hS.2.1.get (x := 2) (t := (3, 26, 0)) rfl
          have q3 : ρ[m']? = some 18 := q3
          have hmm : m' = m := one_of hS.1 q3 hm (by decide)
          subst hmm
          have q1 : mget lv4 0 = some (.ref m') := q1
          have u1 : mget lv4 1 = some (.ref f') := u1
          have w1 : mget lv4 2 = some (.ref st') := w1
          have w3 : ρ[st']? = some 26 := w3
          have u3 : ρ[f']? = some 23 := u3
          have c4 : h4.1[m']? = some (.inr (2, fs3)) := by rw [hS.2.2.2.2.1 m' 18 hm (by decide)]; exact p1
          have hl5 : 5 < fs3.length := (List.getElem?_eq_some_iff.mp p5).1
          have hlm : m' < h4.1.length := (List.getElem?_eq_some_iff.mp c4).1
          have x1 : (x + 1).toInt = s + 1 := by rw [add_id (by omega) (by omega), e1]; omega
          refine ⟨9500 * k + 300 + 9400, by show ((9500 * k + 300 + 9400 : Nat) : Int) ≤ 9400 + 0 + (9500 * (k : Int) + 300); omega, ?_⟩
          refine mE_aldn 79 rfl q1 rfl rfl ?_
          refine mE_dup 80 rfl rfl rfl ?_
          refine mE_gf 83 rfl rfl c4 p5 rfl ?_
          refine mE_ico 84 1 rfl rfl rfl ?_
          refine mE_iadd 85 (x + 1) rfl rfl rfl ?_
          refine mE_pf 88 rfl c4 (by show (true && Nat.blt 5 fs3.length) = true; rw [Nat.blt_eq.mpr hl5]; rfl) rfl ?_
          have hH5 : okH rI0 (gup g 6 n') ρ (h4.1.set m' (.inr (2, fs3.set 5 (.int (x + 1))))) := hS.1.put hm rD_eq (j := 5) (t := (0, 0, 8)) rfl c4 ⟨x + 1, rfl, by show 0 ≤ (x + 1).toInt; omega, by show (x + 1).toInt ≤ 8; omega⟩
          have hF5 : okFr ρ [18, 19, 20, 21, 22] h (h4.1.set m' (.inr (2, fs3.set 5 (.int (x + 1)))), h4.2) := (((hF2.trans (o4.mono rfl)).trans (hS.2.2.2.2.mono rfl))).trans (okFr.set okFr.rfl hm (by decide))
          have hH6 : okH rI0 (gup (gup g 6 n') 9 (s + 1)) ρ (h4.1.set m' (.inr (2, fs3.set 5 (.int (x + 1))))) := okH_9 hH5
          have hg6 : okG aBl (gup (gup g 6 n') 9 (s + 1)) := okG_up hgn' rfl (by show -2147483648 ≤ s + 1; omega) (by show s + 1 ≤ 2147483647; omega)
          have hex2 : ∀ (pc : Nat) (A : aAn) (mm : Int), anaf sg2 pc = some A → pc ∈ [20] → Gs rI0 (gup (gup g 6 n') 9 (s + 1)) ρ [18] (h4.1.set m' (.inr (2, fs3.set 5 (.int (x + 1)))), h4.2) (d + 1) 4 (mgd 114 mtX2_gather) (fun r h' => mretok none r = true ∧ GP g ρ h r h') (9500 * k + 300) mm (pc, A) := by
            intro pc A mm hA hpc
            rcases List.mem_cons.mp hpc with rfl | hpc
            rotate_left
            · cases hpc
            rw [sg2_e20] at hA
            cases hA
            intro lv6 st6 h6 hS6 _
            have hst6 := hS6.2.2.1.nil
            subst hst6
            obtain ⟨v, y1, m2, rfl, y3⟩ := hS6.2.1.get (x := 0) (t := (3, 18, 0)) rfl
            obtain ⟨v, z1, f2, rfl, z3⟩ := hS6.2.1.get (x := 1) (t := (3, 23, 0)) rfl
            obtain ⟨w2, a1, a3⟩ := hS6.2.1.get (x := 2) (t := (4, 26, 0)) rfl
            obtain ⟨v, b1, x2, rfl, b3⟩ := hS6.2.1.get (x := 1005) (t := (1, 9, 0)) rfl
            have y3 : ρ[m2]? = some 18 := y3
            have hmm2 : m2 = m' := one_of hS6.1 y3 hm (by decide)
            subst hmm2
            have y1 : mget lv6 0 = some (.ref m2) := y1
            have b1 : vcell h6.1 (mget lv6 0) 5 = some (.int x2) := by rw [← vget_f]; exact b1
            have b3 : x2.toInt = gup (gup g 6 n') 9 (s + 1) 9 + 0 := b3
            rw [gup_self] at b3
            rw [y1] at b1
            obtain ⟨fs6, d1, -, -⟩ := fld hS6.1 hm rD_eq
            unfold vcell at b1
            simp only [d1] at b1
            have hH7 : okH rI0 (gup g 6 n') ρ h6.1 := okH_9' hS6.1
            exact ⟨9500 * k + 300, by show ((9500 * k + 300 : Nat) : Int) ≤ 400 + 0 + (9500 * (k : Int) + 300); omega, ih h6 lv6 n' (s + 1) x2 fs6 w2 f2 z3 hH7 (hF5.trans (hS6.2.2.2.2.mono rfl)) (by omega) (by omega) (by omega) d1 b1 (by omega) y1 z1 a1 a3 hS6.2.2.2.1⟩
          have G2 := seg_ok (rt := some (7, 0, 0)) (by omega) hg6 hall1 (fun r h' _ _ q => by obtain ⟨v, -, hv⟩ := q; exact hv.elim) sg2_k hex2
          obtain ⟨b, hb, kE⟩ := G2 _ 88 _ sg2_e88 lv4 [] _ ⟨hH6, okL.cons (v := .ref m') q1 ⟨m', rfl, hm⟩ (okL.cons (v := .ref f') u1 ⟨f', rfl, u3⟩ (okL.cons (v := .ref st') w1 ⟨st', rfl, w3⟩ (okL.cons (x := 1005) (v := .int (x + 1)) (by
            rw [show (1005 : Nat) = 1000 + 5 from rfl, vget_f, q1]
            unfold vcell
            simp only [List.getElem?_set_self hlm, List.getElem?_set_self hl5]) ⟨x + 1, rfl, by show (x + 1).toInt = gup (gup g 6 n') 9 (s + 1) 9 + 0; rw [gup_self]; omega⟩ okL.nil))), trivial, hS.2.2.2.1, okFr.rfl⟩ (Int.le_refl _)
          have hb : (b : Int) ≤ 413 + 0 + (9500 * (k : Int) + 300) := hb
          exact mE_le kE (by omega)
        have G := seg_ok (rt := some (7, 0, 0)) (by omega) hgn' hall1 (fun r h' _ _ q => by obtain ⟨v, -, hv⟩ := q; exact hv.elim) sg1_k hex
        obtain ⟨b, hb, kE⟩ := G _ 42 _ sg1_e42 lv3 [] h3 ⟨o3, okL.cons (v := .ref m) s0 ⟨m, rfl, hm⟩ (okL.cons (v := .ref f) s1 ⟨f, rfl, hf⟩ (okL.cons (v := .ref st) s2 ⟨st, rfl, hst⟩ (okL.cons (v := .int v) r1 ⟨v, rfl, o7, by show v.toInt ≤ gup g 6 n' 6 + -1; rw [gup_self]; omega⟩ (okL.cons (x := 1005) (v := .int x) (by
            rw [show (1005 : Nat) = 1000 + 5 from rfl, vget_f, s0]
            unfold vcell
            simp only [p1, p5]) ⟨x, rfl, by show 0 ≤ x.toInt; omega, by show x.toInt ≤ 7; omega⟩ okL.nil)))), trivial, r3, okFr.rfl⟩ (Int.le_refl _)
        have hb : (b : Int) ≤ 9424 + 0 + (9500 * (k : Int) + 300) := hb
        exact mE_le kE (by omega)
  -- the beginning
  obtain ⟨fs, c1, c2, c3⟩ := fld hH hm rD_eq
  obtain ⟨ff, f1, -, f3⟩ := fld hH hf (show rI0 23 = some (.inl (3, rOf 23)) from rfl)
  obtain ⟨w, f4, f5⟩ := f3 0 (4, 26, 0) rfl
  have hlm : m < h.1.length := (List.getElem?_eq_some_iff.mp c1).1
  have hmf : m ≠ f := fun e => by subst e; rw [hm] at hf; cases hf
  have hl : fs.length = 8 := c2
  refine mR_ix [(0, .ref m), (1, .ref f)] rfl rfl rfl ?_
  refine mE_aldn 1 rfl rfl rfl rfl ?_
  refine mE_ico 2 0 rfl rfl rfl ?_
  refine mE_pf 5 rfl c1 (by show (true && Nat.blt 4 fs.length) = true; rw [hl]; rfl) rfl ?_
  refine mE_aldn 6 rfl rfl rfl rfl ?_
  refine mE_ico 7 0 rfl rfl rfl ?_
  refine mE_pf 10 rfl (List.getElem?_set_self hlm) (by show (true && Nat.blt 5 (fs.set 4 _).length) = true; rw [List.length_set, hl]; rfl) rfl ?_
  refine mE_aldn 11 rfl rfl rfl rfl ?_
  refine mE_ico 12 0 rfl rfl rfl ?_
  refine mE_pf 15 rfl (List.getElem?_set_self (by rw [List.length_set]; exact hlm)) (by show (true && Nat.blt 7 ((fs.set 4 _).set 5 _).length) = true; rw [List.length_set, List.length_set, hl]; rfl) rfl ?_
  refine mE_aldn 16 rfl rfl rfl rfl ?_
  refine mE_gf 19 rfl rfl (by
    show (((h.1.set m _).set m _).set m _)[f]? = _
    rw [List.getElem?_set_ne hmf, List.getElem?_set_ne hmf, List.getElem?_set_ne hmf]
    exact f1) f4 rfl ?_
  refine mE_astn 20 _ rfl (by rcases f5 with rfl | ⟨k, rfl, -⟩ <;> rfl) rfl rfl ?_
  have hset : ((h.1.set m (.inr (2, fs.set 4 (.int 0)))).set m (.inr (2, (fs.set 4 (.int 0)).set 5 (.int 0)))).set m (.inr (2, ((fs.set 4 (.int 0)).set 5 (.int 0)).set 7 (.int 0))) = h.1.set m (.inr (2, ((fs.set 4 (.int 0)).set 5 (.int 0)).set 7 (.int 0))) := by
    rw [List.set_set, List.set_set]
  have hH1 : okH rI0 (gup g 6 0) ρ (h.1.set m (.inr (2, ((fs.set 4 (.int 0)).set 5 (.int 0)).set 7 (.int 0)))) := by
    have hcm : okC (gup g 6 0) ρ (.inl (2, rD)) (.inr (2, ((fs.set 4 (.int 0)).set 5 (.int 0)).set 7 (.int 0))) := by
      refine ⟨_, rfl, by rw [List.length_set, List.length_set, List.length_set]; exact c2, fun j t v a1 a2 => ?_⟩
      have hz : ∀ lo hi : Int, lo ≤ 0 → 0 ≤ hi → hasT (gup g 6 0) ρ (0, lo, hi) (.int 0) := fun lo hi q1 q2 => ⟨0, rfl, by show lo ≤ (0 : Int32).toInt; omega, by show (0 : Int32).toInt ≤ hi; omega⟩
      by_cases hj7 : 7 = j
      · subst hj7
        rw [List.getElem?_set_self (by rw [List.length_set, List.length_set, hl]; omega)] at a2
        cases a2
        have a1 : some a32 = some t := a1
        cases a1
        exact a32_ok 0
      · rw [List.getElem?_set_ne hj7] at a2
        by_cases hj5 : 5 = j
        · subst hj5
          rw [List.getElem?_set_self (by rw [List.length_set, hl]; omega)] at a2
          cases a2
          have a1 : some ((0, 0, 8) : aV) = some t := a1
          cases a1
          exact hz 0 8 (by omega) (by omega)
        · rw [List.getElem?_set_ne hj5] at a2
          by_cases hj4 : 4 = j
          · subst hj4
            rw [List.getElem?_set_self (by rw [hl]; omega)] at a2
            cases a2
            have a1 : some ((1, 6, 0) : aV) = some t := a1
            cases a1
            exact ⟨0, rfl, by show (0 : Int32).toInt = gup g 6 0 6 + 0; rw [gup_self]; omega⟩
          · rw [List.getElem?_set_ne hj4] at a2
            obtain ⟨v', b1, b2⟩ := c3 j t a1
            rw [a2] at b1
            cases b1
            refine hasT_upd ?_ b2
            match j, hj4, hj5, hj7 with
            | 0, _, _, _ => cases a1; rfl
            | 1, _, _, _ => cases a1; rfl
            | 2, _, _, _ => cases a1; rfl
            | 3, _, _, _ => cases a1; rfl
            | 6, _, _, _ => cases a1; rfl
            | j + 8, _, _, _ => cases a1
            | 4, hj, _, _ => exact absurd rfl hj
            | 5, _, hj, _ => exact absurd rfl hj
            | 7, _, _, hj => exact absurd rfl hj
    refine okH_updset hH hm rD_eq hcm (fun k2 r R c hne a1 a2 a3 a4 => ?_)
    have hr : r ∈ aspk 6 := aspk_ok a3 a4
    have hsp : aspk 6 = [18, 19] := by decide +kernel
    rw [hsp] at hr
    rcases List.mem_cons.mp hr with rfl | hr
    · exact absurd (one_of hH a1 hm (by decide)) hne
    · rcases List.mem_cons.mp hr with rfl | hr
      · have a3 : some ((.inr (.inr (2, 8, 25, 8))) : aR) = some R := a3
        cases a3
        obtain ⟨c', b1, qs, rfl, b2, b3⟩ := hH.at a1 (R := .inr (.inr (2, 8, 25, 8))) rfl
        rw [a2] at b1
        cases b1
        refine ⟨qs, rfl, b2, fun j q b4 => ?_⟩
        rcases b3 j q b4 with ⟨rfl, b5⟩ | b5
        · refine Or.inl ⟨rfl, ?_⟩
          show gup g 6 0 6 ≤ (j : Int)
          rw [gup_self]
          omega
        · exact Or.inr b5
      · cases hr
  have hF1 : okFr ρ [18, 19, 20, 21, 22] h (h.1.set m (.inr (2, ((fs.set 4 (.int 0)).set 5 (.int 0)).set 7 (.int 0))), h.2) := okFr.set okFr.rfl hm (by decide)
  have hlv : ∀ q ∈ [(0, Value.ref m), (1, Value.ref f)], mone q.2 = true := lvall _ rfl
  refine mE_le (key 8 (((h.1.set m (.inr (2, fs.set 4 (.int 0)))).set m (.inr (2, (fs.set 4 (.int 0)).set 5 (.int 0)))).set m (.inr (2, ((fs.set 4 (.int 0)).set 5 (.int 0)).set 7 (.int 0))), h.2) _ 0 0 0 (((fs.set 4 (.int 0)).set 5 (.int 0)).set 7 (.int 0)) w f hf (by rw [hset]; exact hH1) (by rw [hset]; exact hF1) (by omega) (by omega) (by omega) (List.getElem?_set_self (by rw [List.length_set, List.length_set]; exact hlm)) (by rw [List.getElem?_set_ne (by omega), List.getElem?_set_self (by rw [List.length_set, hl]; omega)]) e0 ((mget_put _ _ 0 _ (by decide) hlv).trans rfl) ((mget_put _ _ 1 _ (by decide) hlv).trans rfl) (mget_put_self _ _ _) (by
    rcases f5 with rfl | ⟨k, rfl, hk⟩
    · exact Or.inl rfl
    · exact Or.inr ⟨k, rfl, hk⟩) (mput_mone hlv (hasT_mone f5))) (Nat.le_of_ble_eq_true rfl)
