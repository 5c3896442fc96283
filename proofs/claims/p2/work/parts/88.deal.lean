def aBl7 : aB := aBl.set 6 (0, 7)
def so1_0 : aAn := ([(0, (3, 63, 0)), (1, (3, 25, 0))], [], (490, []))
def so1_28 : aAn := ([(0, (3, 63, 0)), (1, (3, 25, 0)), (2, (0, 0, 7)), (1004, (0, 0, 7))], [], (400, []))
def so1 : List (Nat × aAn) := [(0, so1_0),
  (2, [(0, (3, 63, 0)), (1, (3, 25, 0)), (2, (0, 0, 7))], [], (488, [(2, -12)])),
  (28, so1_28)]
set_option maxRecDepth 100000 in
theorem so1_k : so1.all (fun q => [28].elem q.1 || ahead aBl7 rI0 (ctU ci_early) (alook []) [] (some (2, 6, -1)) 3 (mgd 78 mtX2_ownerOf) (anaf so1) 48 q.1) = true := by decide +kernel
theorem so1_e0 : anaf so1 0 = some so1_0 := rfl
theorem so1_e28 : anaf so1 28 = some so1_28 := rfl
def so2_38 : aAn := ([(0, (3, 63, 0)), (1, (3, 25, 0))], [], (413, []))
def so2_61 : aAn := ([(0, (3, 63, 0)), (1, (3, 25, 0))], [], (400, []))
def so2 : List (Nat × aAn) := [(38, so2_38),
  (61, so2_61)]
set_option maxRecDepth 100000 in
theorem so2_k : so2.all (fun q => [61].elem q.1 || ahead aBl7 rI0 (ctU ci_early) (alook []) [20, 21] (some (7, 0, 0)) 3 (mgd 78 mtX2_ownerOf) (anaf so2) 48 q.1) = true := by decide +kernel
theorem so2_e38 : anaf so2 38 = some so2_38 := rfl
theorem so2_e61 : anaf so2 61 = some so2_61 := rfl
def sg1_42 : aAn := ([(0, (3, 63, 0)), (1, (3, 23, 0)), (2, (3, 26, 0)), (3, (2, 6, -1)), (1005, (0, 0, 7))], [], (424, []))
def sg1_78 : aAn := ([(0, (3, 63, 0)), (1, (3, 23, 0)), (2, (3, 26, 0)), (3, (2, 6, -1)), (1005, (0, 0, 7))], [], (400, []))
def sg1 : List (Nat × aAn) := [(42, sg1_42),
  (78, sg1_78)]
set_option maxRecDepth 100000 in
theorem sg1_k : sg1.all (fun q => [78].elem q.1 || ahead aBl rI0 (ctU ci_early) (alook [(60, 74), (74, 74)]) [20, 21, 22] (some (7, 0, 0)) 4 (mgd 114 mtX2_gather) (anaf sg1) 69 q.1) = true := by decide +kernel
theorem sg1_e42 : anaf sg1 42 = some sg1_42 := rfl
theorem sg1_e78 : anaf sg1 78 = some sg1_78 := rfl
def sg2_20 : aAn := ([(0, (3, 63, 0)), (1, (3, 23, 0)), (2, (4, 26, 0))], [], (400, []))
def sg2_88 : aAn := ([(0, (3, 63, 0)), (1, (3, 23, 0)), (2, (3, 26, 0))], [], (413, []))
def sg2 : List (Nat × aAn) := [(20, sg2_20),
  (88, sg2_88),
  (105, [(0, (3, 63, 0)), (1, (3, 23, 0)), (2, (3, 26, 0))], [], (404, []))]
set_option maxRecDepth 100000 in
theorem sg2_k : sg2.all (fun q => [20].elem q.1 || ahead aBl rI0 (ctU ci_early) (alook [(89, 33)]) [63] (some (7, 0, 0)) 4 (mgd 114 mtX2_gather) (anaf sg2) 69 q.1) = true := by decide +kernel
theorem sg2_e20 : anaf sg2 20 = some sg2_20 := rfl
theorem sg2_e88 : anaf sg2 88 = some sg2_88 := rfl
/-! the Deal: gather and ownerOf -/
theorem okL.cons {g : Nat → Int} {ρ : List Nat} {L : aL} {lv : mL} {h : List mC} {x : Nat} {t : aV} {v : Value} (h1 : vget lv h x = some v) (h2 : hasT g ρ t v) (hL : okL g ρ L lv h) : okL g ρ ((x, t) :: L) lv h := by
  intro q hq
  rcases List.mem_cons.mp hq with rfl | hq
  · exact ⟨v, h1, h2⟩
  · exact hL q hq
theorem okL.nil {g : Nat → Int} {ρ : List Nat} {lv : mL} {h : List mC} : okL g ρ [] lv h := fun q hq => by cases hq
theorem okG7 {g : Nat → Int} (hg : okG aBl g) (h7 : g 6 ≤ 7) : okG aBl7 g := by
  intro p q hq
  by_cases hp : p = 6
  · subst hp
    have hq : some ((0, 7) : Int × Int) = some q := hq
    cases hq
    have := hg 6 (0, 8) rfl
    exact ⟨this.1, h7⟩
  · unfold aBl7 at hq
    rw [List.getElem?_set_ne (fun e => hp e.symm)] at hq
    exact hg p q hq
theorem okG7_8 : ∀ g, okG aBl7 g → okG aBl g := by
  intro g hg p q hq
  by_cases hp : p = 6
  · subst hp
    have hq : some ((0, 8) : Int × Int) = some q := hq
    cases hq
    have := hg 6 (0, 7) rfl
    have h1 : 0 ≤ g 6 := this.1
    have h2 : g 6 ≤ 7 := this.2
    exact ⟨h1, by show g 6 ≤ 8; omega⟩
  · refine hg p q ?_
    unfold aBl7
    rw [List.getElem?_set_ne (fun e => hp e.symm)]
    exact hq
def OP (g : Nat → Int) (ρ : List Nat) (m : Nat) (h : mS) : Option Value → mS → Prop := fun r h' => ∃ (v : Int32) (n' : Int), r = some (.int v) ∧ okH rI0 (upd g 6 n') ρ h'.1 ∧ okFr ρ [63, 64, 20, 21] h h' ∧ g 6 ≤ n' ∧ n' ≤ g 6 + 1 ∧ 0 ≤ v.toInt ∧ v.toInt < n' ∧ (∀ fs, h.1[m]? = some (.inr (2, fs)) → ∃ fs', h'.1[m]? = some (.inr (2, fs')) ∧ fs'[5]? = fs[5]?)
theorem upd_same {g : Nat → Int} {p : Nat} : upd g p (g p) = g := by
  funext q
  unfold upd
  split
  · rename_i e; rw [e]
  · rfl
def rD : List aV := rOf 63
theorem rD_eq : rI0 63 = some (.inl (2, rD)) := rfl
theorem okFr.mono {ρ md md' : List Nat} {h h' : mS} (hf : okFr ρ md h h') (hm : md.all (fun r => md'.elem r) = true) : okFr ρ md' h h' := ⟨fun k r x y => hf.1 k r x (fun hh => y (elem_mem (List.all_eq_true.mp hm r hh))), hf.2⟩
theorem one_of {g : Nat → Int} {ρ : List Nat} {h : List mC} {k m r : Nat} (hH : okH rI0 g ρ h) (hk : ρ[k]? = some r) (hm : ρ[m]? = some r) (hr : grp r ≠ 0) : k = m := hH.2.2 k m r r hk hm rfl hr
set_option maxRecDepth 10000 in
set_option maxHeartbeats 1000000 in
theorem r_ownerOf {d : Nat} (hall : CTall ci_early d) {g : Nat → Int} {ρ : List Nat} {m k : Nat} {h : mS} (hg : okG aBl g) (hH : okH rI0 g ρ h.1) (hm : ρ[m]? = some 63) (hk : ρ[k]? = some 25) (h7 : g 6 ≤ 7) : mR (d + 1) 10 [.ref m, .ref k] h (OP g ρ m h) := by
  have hg7 := okG7 hg h7
  have hg6 : 0 ≤ g 6 := (hg 6 (0, 8) rfl).1
  have hct7 : ∀ i q, ctU ci_early i = some q → CT rI0 aBl7 d q := fun i q hq => (hall i q hq).nar okG7_8
  -- the end: ownerCount++ and its answer
  have e61 : ∀ (h2 : mS) (lv : mL), okH rI0 g ρ h2.1 → okFr ρ [63, 64, 20, 21] h h2 → mget lv 0 = some (.ref m) → (∀ (o : Nat) (qs : List (Option Nat)), ρ[o]? = some 64 → h2.1[o]? = some (.inl (2, .inr qs)) → ∃ k, qs[(g 6).toNat]? = some (some k)) → (∀ fs, h.1[m]? = some (.inr (2, fs)) → h2.1[m]? = some (.inr (2, fs))) → mE (mcall d) none 3 (mgd 78 mtX2_ownerOf) 400 (61, lv, [], h2) (fun r h' => mretok (some .int) r = true ∧ OP g ρ m h r h') := by
    intro h2 lv hH2 hF2 g0 hown hsame
    obtain ⟨fs, c1, c2, c3⟩ := fld hH2 hm rD_eq
    obtain ⟨v4, d1, n0, rfl, d2⟩ := c3 4 (1, 6, 0) rfl
    have d2 : n0.toInt = g 6 + 0 := d2
    have e1 : (1 : Int32).toInt = 1 := by decide
    have d3 : (n0 + 1).toInt = n0.toInt + 1 := by rw [add_id (by omega) (by omega), e1]
    have hl4 : 4 < fs.length := (List.getElem?_eq_some_iff.mp d1).1
    have hlm : m < h2.1.length := (List.getElem?_eq_some_iff.mp c1).1
    refine mE_aldn 62 rfl g0 rfl rfl ?_
    refine mE_dup 63 rfl rfl rfl ?_
    refine mE_gf 66 rfl rfl c1 d1 rfl ?_
    refine mE_ico 67 1 rfl rfl rfl ?_
    refine mE_iadd 68 (n0 + 1) rfl rfl rfl ?_
    refine mE_pf 71 rfl c1 (by show (true && Nat.blt 4 fs.length) = true; rw [Nat.blt_eq.mpr hl4]; rfl) rfl ?_
    refine mE_aldn 72 rfl g0 rfl rfl ?_
    refine mE_gf 75 rfl rfl (List.getElem?_set_self hlm) (List.getElem?_set_self hl4) rfl ?_
    refine mE_ico 76 1 rfl rfl rfl ?_
    refine mE_isub 77 (n0 + 1 - 1) rfl rfl rfl ?_
    have d4 : (n0 + 1 - 1).toInt = n0.toInt := by rw [sub_id (by omega) (by omega), d3, e1]; omega
    refine mE_iret rfl ⟨rfl, n0 + 1 - 1, g 6 + 1, rfl, ?_, ?_, by omega, by omega, by omega, by omega, ?_⟩
    · have hcm : okC (upd g 6 (g 6 + 1)) ρ (.inl (2, rD)) (.inr (2, fs.set 4 (.int (n0 + 1)))) := by
        refine ⟨_, rfl, by rw [List.length_set]; exact c2, fun j t v a1 a2 => ?_⟩
        by_cases hj : 4 = j
        · subst hj
          rw [List.getElem?_set_self hl4] at a2
          cases a2
          have a1 : some ((1, 6, 0) : aV) = some t := a1
          cases a1
          exact ⟨_, rfl, by show (n0 + 1).toInt = upd g 6 (g 6 + 1) 6 + 0; rw [upd_self]; omega⟩
        · rw [List.getElem?_set_ne hj] at a2
          obtain ⟨v', b1, b2⟩ := c3 j t a1
          rw [a2] at b1
          cases b1
          refine hasT_upd ?_ b2
          match j, hj with
          | 0, _ => cases a1; rfl
          | 1, _ => cases a1; rfl
          | 2, _ => cases a1; rfl
          | 3, _ => cases a1; rfl
          | 5, _ => cases a1; rfl
          | 6, _ => cases a1; rfl
          | 7, _ => cases a1; rfl
          | j + 8, _ => cases a1
          | 4, hj => exact absurd rfl hj
      refine okH_updset hH2 hm rD_eq hcm (fun k2 r R c hne a1 a2 a3 a4 => ?_)
      have hr : r ∈ aspk 6 := aspk_ok a3 a4
      have hsp : aspk 6 = [63, 64] := by decide +kernel
      rw [hsp] at hr
      rcases List.mem_cons.mp hr with rfl | hr
      · exact absurd (one_of hH2 a1 hm (by decide)) hne
      · rcases List.mem_cons.mp hr with rfl | hr
        · have a3 : some ((.inr (.inr (2, 8, 25, 8))) : aR) = some R := a3
          cases a3
          obtain ⟨R', b1, qs, rfl, b2, b3⟩ := hH2.2.1 k2 64 c a1 a2
          refine ⟨qs, rfl, b2, fun j q b4 => ?_⟩
          rcases b3 j q b4 with ⟨rfl, b5⟩ | b5
          · refine Or.inl ⟨rfl, ?_⟩
            have b5 : g 6 ≤ (j : Int) := b5
            show upd g 6 (g 6 + 1) 6 ≤ (j : Int)
            rw [upd_self]
            by_cases hj : (j : Int) = g 6
            · obtain ⟨k3, b6⟩ := hown k2 qs a1 a2
              rw [show (g 6).toNat = j by omega, b4] at b6
              cases b6
            · omega
          · exact Or.inr b5
        · cases hr
    · exact hF2.trans (okFr.set okFr.rfl hm (by decide))
    · intro fs0 hf0
      have := hsame fs0 hf0
      rw [c1] at this
      cases this
      exact ⟨_, List.getElem?_set_self hlm, List.getElem?_set_ne (by omega)⟩
  -- the array's new owner
  have e28 : ∀ (h2 : mS) (lv : mL) (k : Nat), h2 = h → ρ[k]? = some 25 → mget lv 0 = some (.ref m) → mget lv 1 = some (.ref k) → (∀ q ∈ lv, mone q.2 = true) → mE (mcall d) none 3 (mgd 78 mtX2_ownerOf) 420 (28, lv, [], h2) (fun r h' => mretok (some .int) r = true ∧ OP g ρ m h r h') := by
    intro h2 lv k hh hk g0 g1 g3
    subst hh
    obtain ⟨fs, c1, c2, c3⟩ := fld hH hm rD_eq
    obtain ⟨v4, d1, n0, rfl, d2⟩ := c3 4 (1, 6, 0) rfl
    have d2 : n0.toInt = g 6 + 0 := d2
    obtain ⟨v0, d3, o, rfl, d4⟩ := c3 0 (3, 64, 0) rfl
    have d4 : ρ[o]? = some 64 := d4
    obtain ⟨cO, o1, qs, rfl, o2, o3⟩ := hH.at d4 (R := .inr (.inr (2, 8, 25, 8))) rfl
    obtain ⟨fk, k1, -, -⟩ := fld hH hk (show rI0 25 = some (.inl (4, rOf 25)) from rfl)
    have e0 : (0 : Int32).toInt = 0 := by decide
    have en : n0.toNatClampNeg = (g 6).toNat := by
      show n0.toInt.toNat = _
      rw [d2]
      congr 1
      omega
    have hol : o < h2.1.length := (List.getElem?_eq_some_iff.mp o1).1
    have hmo : o ≠ m := fun e => by subst e; rw [hm] at d4; cases d4
    refine mE_aldn 29 rfl g0 rfl rfl ?_
    refine mE_gf 32 rfl rfl c1 d3 rfl ?_
    refine mE_aldn 33 rfl g0 rfl rfl ?_
    refine mE_gf 36 rfl rfl c1 d1 rfl ?_
    refine mE_aldn 37 rfl g1 rfl rfl ?_
    refine mE_qsa 38 (g 6).toNat rfl o1 k1 rfl en (by
      rintro (q | q)
      · have := Int32.lt_iff_toInt_lt.mp q; omega
      · omega) rfl ?_
    have hH2 : okH rI0 g ρ (h2.1.set o (.inl (2, .inr (qs.set (g 6).toNat (some k))))) := by
      refine hH.set d4 (R := .inr (.inr (2, 8, 25, 8))) rfl ⟨_, rfl, by rw [List.length_set]; exact o2, fun j q hj => ?_⟩
      by_cases he : (g 6).toNat = j
      · subst he
        rw [List.getElem?_set_self (by rw [o2]; omega)] at hj
        cases hj
        exact Or.inr ⟨k, rfl, hk⟩
      · rw [List.getElem?_set_ne he] at hj
        exact o3 j q hj
    have hF2 : okFr ρ [63, 64, 20, 21] h2 (h2.1.set o (.inl (2, .inr (qs.set (g 6).toNat (some k)))), h2.2) := okFr.set okFr.rfl d4 (by decide)
    -- left and holding: by types
    have G := seg_ok (h0 := (h2.1.set o (.inl (2, .inr (qs.set (g 6).toNat (some k)))), h2.2)) (ρ := ρ) (md := [20, 21]) (rt := some (7, 0, 0)) (nL := 3) (tab := mgd 78 mtX2_ownerOf) (P := fun r h' => mretok (some .int) r = true ∧ OP g ρ m h2 r h') hg7 hct7 (fun r h' _ _ q => by obtain ⟨v, -, hv⟩ := q; exact hv.elim) so2_k (fun pc A mm hA hpc => ?_) 413 38 _ so2_e38
    · exact mE_le (G lv [] _ ⟨hH2, okL.cons (v := .ref m) g0 ⟨m, rfl, hm⟩ (okL.cons (v := .ref k) g1 ⟨k, rfl, hk⟩ okL.nil), trivial, g3, okFr.rfl⟩ (Int.le_refl _)) (Nat.le_of_ble_eq_true rfl)
    · rcases List.mem_cons.mp hpc with rfl | hpc
      · rw [so2_e61] at hA
        cases hA
        intro lv2 st2 h3 hS _
        have hst := hS.2.2.1.nil
        subst hst
        obtain ⟨v, q1, q2⟩ := hS.2.1.get (x := 0) (t := (3, 63, 0)) rfl
        obtain ⟨m', rfl, q3⟩ := q2
        have q1 : mget lv2 0 = some (.ref m') := q1
        have hmm := one_of hS.1 q3 hm (by decide)
        subst hmm
        refine e61 h3 lv2 hS.1 (hF2.trans (hS.2.2.2.2.mono rfl)) q1 (fun o' qs' a1 a2 => ?_) (fun fs0 a1 => ?_)
        · have hoo := one_of hS.1 a1 d4 (by decide)
          subst hoo
          rw [hS.2.2.2.2.1 o' 64 d4 (by decide)] at a2
          rw [show ((h2.1.set o' (.inl (2, .inr (qs.set (g 6).toNat (some k)))), h2.2) : mS).1[o']? = some (.inl (2, .inr (qs.set (g 6).toNat (some k)))) from List.getElem?_set_self hol] at a2
          cases a2
          exact ⟨k, List.getElem?_set_self (by rw [o2]; omega)⟩
        · rw [hS.2.2.2.2.1 m' 63 hm (by decide)]
          show (h2.1.set o _)[m']? = _
          rw [List.getElem?_set_ne hmo]
          exact a1
      · cases hpc
  refine mR_ix [(0, .ref m), (1, .ref k)] rfl rfl rfl ?_
  have G := seg_ok (h0 := h) (ρ := ρ) (md := []) (rt := some (2, 6, -1)) (nL := 3) (tab := mgd 78 mtX2_ownerOf) (P := fun r h' => mretok (some .int) r = true ∧ OP g ρ m h r h') hg7 hct7 (fun r h' q1 q2 q3 => ?_) so1_k (fun pc A mm hA hpc => ?_) 490 0 _ so1_e0
  · exact mE_le (G _ [] h ⟨hH, okL.cons (v := .ref m) rfl ⟨m, rfl, hm⟩ (okL.cons (v := .ref k) rfl ⟨k, rfl, hk⟩ okL.nil), trivial, fun q hq => by rcases List.mem_cons.mp hq with rfl | hq; rfl; rcases List.mem_cons.mp hq with rfl | hq; rfl; cases hq, okFr.rfl⟩ (Int.le_refl _)) (Nat.le_of_ble_eq_true rfl)
  · obtain ⟨v, rfl, x, rfl, x1, x2⟩ := q3
    have x2 : x.toInt ≤ g 6 + -1 := x2
    have hs := same_of hH q1 q2
    subst hs
    exact ⟨rfl, x, g 6, rfl, by rw [upd_same]; exact hH, okFr.rfl, by omega, by omega, x1, by omega, fun fs hf => ⟨fs, hf, rfl⟩⟩
  · rcases List.mem_cons.mp hpc with rfl | hpc
    · rw [so1_e28] at hA
      cases hA
      intro lv2 st2 h3 hS _
      have hst := hS.2.2.1.nil
      subst hst
      obtain ⟨v, q1, m', rfl, q3⟩ := hS.2.1.get (x := 0) (t := (3, 63, 0)) rfl
      obtain ⟨v, r1, k', rfl, r3⟩ := hS.2.1.get (x := 1) (t := (3, 25, 0)) rfl
      have hmm := one_of hS.1 q3 hm (by decide)
      subst hmm
      have hs := same_of hH hS.1 hS.2.2.2.2
      sorry
    · cases hpc
