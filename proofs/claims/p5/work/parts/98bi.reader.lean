/-! the Reader's cell -/
theorem rd_okC {g : Nat → Int} {ρ : List Nat} {w dp dg c wt mn : Int32} {kd : Nat} (h9 : ρ[9]? = some 9) (hw : 0 ≤ w.toInt ∧ w.toInt ≤ 60) (hwt : 0 ≤ wt.toInt ∧ wt.toInt ≤ 1) (hmn : 0 ≤ mn.toInt ∧ mn.toInt ≤ 1) (hkd : ρ[kd]? = some 10) : okC g ρ (.inl (5, rOf 8)) (.inr (5, [.ref 9, .int w, .int dp, .int dg, .int c, .int wt, .int mn, .ref kd])) := by
  refine ⟨_, rfl, rfl, fun j t v q1 q2 => ?_⟩
  have zz : ∀ (t' : aV) (v' : Value), some t' = some t → some v' = some v → hasT g ρ t' v' → hasT g ρ t v := fun t' v' q1 q2 q3 => by cases q1; cases q2; exact q3
  match j, q1, q2 with
  | 0, q1, q2 => exact zz (3, 9, 0) _ q1 q2 ⟨9, rfl, h9⟩
  | 1, q1, q2 => exact zz (0, 0, 60) _ q1 q2 ⟨w, rfl, hw⟩
  | 2, q1, q2 => exact zz a32 _ q1 q2 (a32_ok _)
  | 3, q1, q2 => exact zz a32 _ q1 q2 (a32_ok _)
  | 4, q1, q2 => exact zz a32 _ q1 q2 (a32_ok _)
  | 5, q1, q2 => exact zz (0, 0, 1) _ q1 q2 ⟨wt, rfl, hwt⟩
  | 6, q1, q2 => exact zz (0, 0, 1) _ q1 q2 ⟨mn, rfl, hmn⟩
  | 7, q1, q2 => exact zz (3, 10, 0) _ q1 q2 ⟨kd, rfl, hkd⟩
  | j + 8, q1, q2 => cases q2
theorem rd_of {g : Nat → Int} {ρ : List Nat} {h : List mC} (hH : okH rI0 g ρ h) (h8 : ρ[8]? = some 8) (h9 : ρ[9]? = some 9) : ∃ (w dp dg c wt mn : Int32) (kd : Nat), h[8]? = some (.inr (5, [.ref 9, .int w, .int dp, .int dg, .int c, .int wt, .int mn, .ref kd])) ∧ (0 ≤ w.toInt ∧ w.toInt ≤ 60) ∧ (0 ≤ wt.toInt ∧ wt.toInt ≤ 1) ∧ (0 ≤ mn.toInt ∧ mn.toInt ≤ 1) ∧ ρ[kd]? = some 10 := by
  obtain ⟨fs, c1, c2, c3⟩ := fld hH h8 (show rI0 8 = some (.inl (5, rOf 8)) from rfl)
  obtain ⟨v0, e0, k0, rfl, r0⟩ := c3 0 (3, 9, 0) rfl
  obtain ⟨v1, e1, x1, rfl, r1⟩ := c3 1 (0, 0, 60) rfl
  obtain ⟨v2, e2, x2, rfl, -⟩ := c3 2 a32 rfl
  obtain ⟨v3, e3, x3, rfl, -⟩ := c3 3 a32 rfl
  obtain ⟨v4, e4, x4, rfl, -⟩ := c3 4 a32 rfl
  obtain ⟨v5, e5, x5, rfl, r5⟩ := c3 5 (0, 0, 1) rfl
  obtain ⟨v6, e6, x6, rfl, r6⟩ := c3 6 (0, 0, 1) rfl
  obtain ⟨v7, e7, k7, rfl, r7⟩ := c3 7 (3, 10, 0) rfl
  have r0 : ρ[k0]? = some 9 := r0
  have hk0 : k0 = 9 := one_of hH r0 h9 (by decide)
  subst hk0
  have c2 : fs.length = 8 := c2
  refine ⟨x1, x2, x3, x4, x5, x6, k7, ?_, r1, r5, r6, r7⟩
  rw [c1]
  congr 3
  apply List.ext_getElem?
  intro i
  match i with
  | 0 => exact e0
  | 1 => exact e1
  | 2 => exact e2
  | 3 => exact e3
  | 4 => exact e4
  | 5 => exact e5
  | 6 => exact e6
  | 7 => exact e7
  | i + 8 => rw [List.getElem?_eq_none (by omega)]; rfl
theorem set_self8 {l : List mC} {k : Nat} {c : mC} (e : l[k]? = some c) : l.set k c = l := by
  apply List.ext_getElem?
  intro i
  by_cases hi : k = i
  · subst hi
    rw [List.getElem?_set_self (List.getElem?_eq_some_iff.mp e).1, e]
  · rw [List.getElem?_set_ne hi]
theorem nf8 {h : mS} {c : mC} (e : h.1[8]? = some c) : h = (h.1.set 8 c, h.2) := by rw [set_self8 e]
/-- which fields of the Reader none but its own walks write -/
def fF5 (ci j : Nat) : Bool := Nat.beq ci 5 && !Nat.beq j 1
theorem fS_5 : fSet fF5 [30, 31, 33, 53, 54, 55] = true := by decide +kernel
/-- behind a call that leaves these fields: the Reader's cell has another count alone -/
theorem rd_fk {g : Nat → Int} {ρ : List Nat} {h h' : List mC} {w dp dg c wt mn : Int32} {kd : Nat} (hH : okH rI0 g ρ h') (h8 : ρ[8]? = some 8) (h9 : ρ[9]? = some 9) (e : h[8]? = some (.inr (5, [.ref 9, .int w, .int dp, .int dg, .int c, .int wt, .int mn, .ref kd]))) (hf : fk fF5 h h') : ∃ w' : Int32, h'[8]? = some (.inr (5, [.ref 9, .int w', .int dp, .int dg, .int c, .int wt, .int mn, .ref kd])) ∧ (0 ≤ w'.toInt ∧ w'.toInt ≤ 60) := by
  obtain ⟨fs', e1, e2⟩ := hf 8 5 _ e
  obtain ⟨w', dp', dg', c', wt', mn', kd', f1, f2, -⟩ := rd_of hH h8 h9
  rw [f1] at e1
  cases e1
  have a2 := e2 2 rfl
  have a3 := e2 3 rfl
  have a4 := e2 4 rfl
  have a5 := e2 5 rfl
  have a6 := e2 6 rfl
  have a7 := e2 7 rfl
  have a2 : some (Value.int dp') = some (.int dp) := a2
  have a3 : some (Value.int dg') = some (.int dg) := a3
  have a4 : some (Value.int c') = some (.int c) := a4
  have a5 : some (Value.int wt') = some (.int wt) := a5
  have a6 : some (Value.int mn') = some (.int mn) := a6
  have a7 : some (Value.ref kd') = some (.ref kd) := a7
  cases a2
  cases a3
  cases a4
  cases a5
  cases a6
  cases a7
  exact ⟨w', f1, f2⟩
/-- what is told of the Reader's roles -/
def rdR (ρ : List Nat) (w wt mn : Int32) (kd : Nat) : Prop := ρ[8]? = some 8 ∧ ρ[9]? = some 9 ∧ (0 ≤ w.toInt ∧ w.toInt ≤ 60) ∧ (0 ≤ wt.toInt ∧ wt.toInt ≤ 1) ∧ (0 ≤ mn.toInt ∧ mn.toInt ≤ 1) ∧ ρ[kd]? = some 10
theorem rd_up {g : Nat → Int} {ρ : List Nat} {l : List mC} {c0 : mC} {w dp dg c wt mn : Int32} {kd : Nat} (hH : okH rI0 g ρ (l.set 8 c0)) (hr : rdR ρ w wt mn kd) : okH rI0 g ρ (l.set 8 (.inr (5, [.ref 9, .int w, .int dp, .int dg, .int c, .int wt, .int mn, .ref kd]))) := by
  obtain ⟨h8, h9, hw, hwt, hmn, hkd⟩ := hr
  have := hH.set h8 (show rI0 8 = some (.inl (5, rOf 8)) from rfl) (rd_okC (dp := dp) (dg := dg) (c := c) h9 hw hwt hmn hkd)
  rw [List.set_set] at this
  exact this
theorem i01 : 0 ≤ (0 : Int32).toInt ∧ (0 : Int32).toInt ≤ 1 := by decide
theorem i11 : 0 ≤ (1 : Int32).toInt ∧ (1 : Int32).toInt ≤ 1 := by decide
abbrev isRl (b : Int32) : Prop := b = 60 ∨ b = 61 ∨ b = 62
abbrev isBo (b : Int32) : Prop := b = 38 ∨ b = 124
def nc (b dp c v c' : Int32) : Prop := (isBo b ∧ v = 1 ∧ c' = c &&& (((1 : Int32) <<< (dp &&& 31)) ^^^ (-1))) ∨ (isRl b ∧ c &&& ((1 : Int32) <<< (dp &&& 31)) = 0 ∧ v = 1 ∧ c' = c ||| ((1 : Int32) <<< (dp &&& 31))) ∨ (isRl b ∧ ¬ c &&& ((1 : Int32) <<< (dp &&& 31)) = 0 ∧ v = 0 ∧ c' = c) ∨ ((¬ isBo b ∧ ¬ isRl b) ∧ v = 1 ∧ c' = c)
set_option maxRecDepth 10000 in
set_option maxHeartbeats 1000000 in
theorem r_note {d : Nat} {l : List mC} {s : Nat} {w dp dg c wt mn b : Int32} {kd : Nat} (hL : 8 < l.length) : mR (d + 1) 27 [.ref 8, .int b] (l.set 8 (.inr (5, [.ref 9, .int w, .int dp, .int dg, .int c, .int wt, .int mn, .ref kd])), s) (fun r h' => ∃ v c' : Int32, r = some (.int v) ∧ h' = (l.set 8 (.inr (5, [.ref 9, .int w, .int dp, .int dg, .int c', .int wt, .int mn, .ref kd])), s) ∧ nc b dp c v c') := by
  refine mR_ix [(0, .ref 8), (1, .int b)] rfl rfl rfl ?_
  refine mE_ico 1 (1) rfl rfl rfl ?_
  refine mE_aldn 2 rfl rfl rfl rfl ?_
  refine p_get rfl rfl rfl hL ?_
  refine mE_ishl 6 (1 <<< (dp &&& 31)) rfl rfl rfl ?_
  refine mE_istn 7 [(2, .int (1 <<< (dp &&& 31))), (0, .ref 8), (1, .int b)] rfl rfl rfl rfl ?_
  refine mE_ildn 8 rfl rfl rfl rfl ?_
  refine mE_bip 10 (38) rfl rfl rfl ?_
  refine mE_ic_eq rfl (fun h10 => ?_) (fun h10 => ?_)
  · refine mE_aldn 20 rfl rfl rfl rfl ?_
    refine mE_dup 21 rfl rfl rfl ?_
    refine p_get rfl rfl rfl hL ?_
    refine mE_ildn 25 rfl rfl rfl rfl ?_
    refine mE_ico 26 (-1) rfl rfl rfl ?_
    refine mE_ixor 27 ((1 <<< (dp &&& 31)) ^^^ (-1)) rfl rfl rfl ?_
    refine mE_iand 28 (c &&& ((1 <<< (dp &&& 31)) ^^^ (-1))) rfl rfl rfl ?_
    refine p_put [.ref 9, .int w, .int dp, .int dg, .int (c &&& ((1 <<< (dp &&& 31)) ^^^ (-1))), .int wt, .int mn, .ref kd] rfl rfl rfl rfl hL ?_
    refine mE_goto 73 rfl rfl ?_
    refine mE_ico 74 (1) rfl rfl rfl ?_
    exact mE_iret rfl ⟨rfl, _, _, rfl, rfl, Or.inl ⟨Or.inl h10, rfl, rfl⟩⟩
  · refine mE_ildn 14 rfl rfl rfl rfl ?_
    refine mE_bip 16 (124) rfl rfl rfl ?_
    refine mE_ic_ne rfl (fun h16 => ?_) (fun h16 => ?_)
    · refine mE_ildn 35 rfl rfl rfl rfl ?_
      refine mE_bip 37 (60) rfl rfl rfl ?_
      refine mE_ic_eq rfl (fun h37 => ?_) (fun h37 => ?_)
      · refine mE_aldn 53 rfl rfl rfl rfl ?_
        refine p_get rfl rfl rfl hL ?_
        refine mE_ildn 57 rfl rfl rfl rfl ?_
        refine mE_iand 58 (c &&& (1 <<< (dp &&& 31))) rfl rfl rfl ?_
        refine mE_if_eq rfl (fun h58 => ?_) (fun h58 => ?_)
        · refine mE_aldn 64 rfl rfl rfl rfl ?_
          refine mE_dup 65 rfl rfl rfl ?_
          refine p_get rfl rfl rfl hL ?_
          refine mE_ildn 69 rfl rfl rfl rfl ?_
          refine mE_ior 70 (c ||| (1 <<< (dp &&& 31))) rfl rfl rfl ?_
          refine p_put [.ref 9, .int w, .int dp, .int dg, .int (c ||| (1 <<< (dp &&& 31))), .int wt, .int mn, .ref kd] rfl rfl rfl rfl hL ?_
          refine mE_ico 74 (1) rfl rfl rfl ?_
          exact mE_iret rfl ⟨rfl, _, _, rfl, rfl, Or.inr (Or.inl ⟨Or.inl h37, h58, rfl, rfl⟩)⟩
        · refine mE_ico 62 (0) rfl rfl rfl ?_
          exact mE_iret rfl ⟨rfl, _, _, rfl, rfl, Or.inr (Or.inr (Or.inl ⟨Or.inl h37, h58, rfl, rfl⟩))⟩
      · refine mE_ildn 41 rfl rfl rfl rfl ?_
        refine mE_bip 43 (61) rfl rfl rfl ?_
        refine mE_ic_eq rfl (fun h43 => ?_) (fun h43 => ?_)
        · refine mE_aldn 53 rfl rfl rfl rfl ?_
          refine p_get rfl rfl rfl hL ?_
          refine mE_ildn 57 rfl rfl rfl rfl ?_
          refine mE_iand 58 (c &&& (1 <<< (dp &&& 31))) rfl rfl rfl ?_
          refine mE_if_eq rfl (fun h58 => ?_) (fun h58 => ?_)
          · refine mE_aldn 64 rfl rfl rfl rfl ?_
            refine mE_dup 65 rfl rfl rfl ?_
            refine p_get rfl rfl rfl hL ?_
            refine mE_ildn 69 rfl rfl rfl rfl ?_
            refine mE_ior 70 (c ||| (1 <<< (dp &&& 31))) rfl rfl rfl ?_
            refine p_put [.ref 9, .int w, .int dp, .int dg, .int (c ||| (1 <<< (dp &&& 31))), .int wt, .int mn, .ref kd] rfl rfl rfl rfl hL ?_
            refine mE_ico 74 (1) rfl rfl rfl ?_
            exact mE_iret rfl ⟨rfl, _, _, rfl, rfl, Or.inr (Or.inl ⟨Or.inr (Or.inl h43), h58, rfl, rfl⟩)⟩
          · refine mE_ico 62 (0) rfl rfl rfl ?_
            exact mE_iret rfl ⟨rfl, _, _, rfl, rfl, Or.inr (Or.inr (Or.inl ⟨Or.inr (Or.inl h43), h58, rfl, rfl⟩))⟩
        · refine mE_ildn 47 rfl rfl rfl rfl ?_
          refine mE_bip 49 (62) rfl rfl rfl ?_
          refine mE_ic_ne rfl (fun h49 => ?_) (fun h49 => ?_)
          · refine mE_ico 74 (1) rfl rfl rfl ?_
            exact mE_iret rfl ⟨rfl, _, _, rfl, rfl, Or.inr (Or.inr (Or.inr ⟨⟨by rintro (q | q); exact h10 q; exact h16 q, by rintro (q | q | q); exact h37 q; exact h43 q; exact h49 q⟩, rfl, rfl⟩))⟩
          · refine mE_aldn 53 rfl rfl rfl rfl ?_
            refine p_get rfl rfl rfl hL ?_
            refine mE_ildn 57 rfl rfl rfl rfl ?_
            refine mE_iand 58 (c &&& (1 <<< (dp &&& 31))) rfl rfl rfl ?_
            refine mE_if_eq rfl (fun h58 => ?_) (fun h58 => ?_)
            · refine mE_aldn 64 rfl rfl rfl rfl ?_
              refine mE_dup 65 rfl rfl rfl ?_
              refine p_get rfl rfl rfl hL ?_
              refine mE_ildn 69 rfl rfl rfl rfl ?_
              refine mE_ior 70 (c ||| (1 <<< (dp &&& 31))) rfl rfl rfl ?_
              refine p_put [.ref 9, .int w, .int dp, .int dg, .int (c ||| (1 <<< (dp &&& 31))), .int wt, .int mn, .ref kd] rfl rfl rfl rfl hL ?_
              refine mE_ico 74 (1) rfl rfl rfl ?_
              exact mE_iret rfl ⟨rfl, _, _, rfl, rfl, Or.inr (Or.inl ⟨Or.inr (Or.inr (Classical.not_not.mp h49)), h58, rfl, rfl⟩)⟩
            · refine mE_ico 62 (0) rfl rfl rfl ?_
              exact mE_iret rfl ⟨rfl, _, _, rfl, rfl, Or.inr (Or.inr (Or.inl ⟨Or.inr (Or.inr (Classical.not_not.mp h49)), h58, rfl, rfl⟩))⟩
    · refine mE_aldn 20 rfl rfl rfl rfl ?_
      refine mE_dup 21 rfl rfl rfl ?_
      refine p_get rfl rfl rfl hL ?_
      refine mE_ildn 25 rfl rfl rfl rfl ?_
      refine mE_ico 26 (-1) rfl rfl rfl ?_
      refine mE_ixor 27 ((1 <<< (dp &&& 31)) ^^^ (-1)) rfl rfl rfl ?_
      refine mE_iand 28 (c &&& ((1 <<< (dp &&& 31)) ^^^ (-1))) rfl rfl rfl ?_
      refine p_put [.ref 9, .int w, .int dp, .int dg, .int (c &&& ((1 <<< (dp &&& 31)) ^^^ (-1))), .int wt, .int mn, .ref kd] rfl rfl rfl rfl hL ?_
      refine mE_goto 73 rfl rfl ?_
      refine mE_ico 74 (1) rfl rfl rfl ?_
      exact mE_iret rfl ⟨rfl, _, _, rfl, rfl, Or.inl ⟨Or.inr (Classical.not_not.mp h16), rfl, rfl⟩⟩
set_option maxRecDepth 10000 in
set_option maxHeartbeats 1000000 in
theorem r_open {d : Nat} (hall : CTall ci_early d) {g : Nat → Int} {ρ : List Nat} (hg : okG aBl g) {l : List mC} {s : Nat} {w dp dg c wt mn : Int32} {kd : Nat} (hL : 8 < l.length) (hH : okH rI0 g ρ (l.set 8 (.inr (5, [.ref 9, .int w, .int dp, .int dg, .int c, .int wt, .int mn, .ref kd])))) (hr : rdR ρ w wt mn kd) : mR (d + 1) 28 [.ref 8] (l.set 8 (.inr (5, [.ref 9, .int w, .int dp, .int dg, .int c, .int wt, .int mn, .ref kd])), s) (fun r h' => (dp = 12 ∧ r = some (.int 0)) ∨ (¬ dp = 12 ∧ r = some (.int 1) ∧ ∃ w' : Int32, h'.1[8]? = some (.inr (5, [.ref 9, .int w', .int ((dp + 1)), .int dg, .int ((c &&& (((1 : Int32) <<< ((dp + 1) &&& 31)) ^^^ (-1)))), .int wt, .int 1, .ref kd])))) := by
  refine mR_ix [(0, .ref 8)] rfl rfl rfl ?_
  refine mE_aldn 1 rfl rfl rfl rfl ?_
  refine p_get rfl rfl rfl hL ?_
  refine mE_bip 6 (12) rfl rfl rfl ?_
  refine mE_ic_ne rfl (fun h6 => ?_) (fun h6 => ?_)
  · refine mE_aldn 12 rfl rfl rfl rfl ?_
    refine mE_dup 13 rfl rfl rfl ?_
    refine p_get rfl rfl rfl hL ?_
    refine mE_ico 17 (1) rfl rfl rfl ?_
    refine mE_iadd 18 (dp + 1) rfl rfl rfl ?_
    refine p_put [.ref 9, .int w, .int (dp + 1), .int dg, .int c, .int wt, .int mn, .ref kd] rfl rfl rfl rfl hL ?_
    refine mE_aldn 22 rfl rfl rfl rfl ?_
    refine mE_dup 23 rfl rfl rfl ?_
    refine p_get rfl rfl rfl hL ?_
    refine mE_ico 27 (1) rfl rfl rfl ?_
    refine mE_aldn 28 rfl rfl rfl rfl ?_
    refine p_get rfl rfl rfl hL ?_
    refine mE_ishl 32 (1 <<< ((dp + 1) &&& 31)) rfl rfl rfl ?_
    refine mE_ico 33 (-1) rfl rfl rfl ?_
    refine mE_ixor 34 ((1 <<< ((dp + 1) &&& 31)) ^^^ (-1)) rfl rfl rfl ?_
    refine mE_iand 35 (c &&& ((1 <<< ((dp + 1) &&& 31)) ^^^ (-1))) rfl rfl rfl ?_
    refine p_put [.ref 9, .int w, .int (dp + 1), .int dg, .int (c &&& ((1 <<< ((dp + 1) &&& 31)) ^^^ (-1))), .int wt, .int mn, .ref kd] rfl rfl rfl rfl hL ?_
    refine mE_aldn 39 rfl rfl rfl rfl ?_
    refine mE_ico 40 (1) rfl rfl rfl ?_
    refine p_put [.ref 9, .int w, .int (dp + 1), .int dg, .int (c &&& ((1 <<< ((dp + 1) &&& 31)) ^^^ (-1))), .int wt, .int 1, .ref kd] rfl rfl rfl rfl hL ?_
    refine mE_aldn 44 rfl rfl rfl rfl ?_
    refine mE_bip 46 (40) rfl rfl rfl ?_
    refine mE_cv [.int 40] [] rfl rfl rfl rfl (List.getElem?_set_self hL) rfl ?_
    have hH1 := rd_up (dp := dp + 1) (dg := dg) (c := c &&& (((1 : Int32) <<< ((dp + 1) &&& 31)) ^^^ (-1))) (wt := wt) (mn := 1) hH ⟨hr.1, hr.2.1, hr.2.2.1, hr.2.2.2.1, i11, hr.2.2.2.2.2⟩
    obtain ⟨r, h4, k1, hH4, -, rfl⟩ := hall 49 _ rfl g ρ [.ref 8, .int 40] (l.set 8 (.inr (5, [.ref 9, .int w, .int (dp + 1), .int dg, .int (c &&& ((1 <<< ((dp + 1) &&& 31)) ^^^ (-1))), .int wt, .int 1, .ref kd])), s) hg hH1 ⟨⟨8, rfl, hr.1⟩, a32_ok _, trivial⟩ (fun q hq => by cases hq)
    refine ⟨_, _, k1, ?_⟩
    obtain ⟨w', e4, -⟩ := rd_fk hH4 hr.1 hr.2.1 (List.getElem?_set_self hL) (mcall_fk fS_5 _ _ _ _ _ _ (by decide) k1)
    refine mE_ico 50 (1) rfl rfl rfl ?_
    exact mE_iret rfl ⟨rfl, Or.inr ⟨h6, rfl, w', e4⟩⟩
  · refine mE_ico 10 (0) rfl rfl rfl ?_
    exact mE_iret rfl ⟨rfl, Or.inl ⟨Classical.not_not.mp h6, rfl⟩⟩
set_option maxRecDepth 10000 in
set_option maxHeartbeats 1000000 in
theorem r_close {d : Nat} (hall : CTall ci_early d) {g : Nat → Int} {ρ : List Nat} (hg : okG aBl g) {l : List mC} {s : Nat} {w dp dg c wt mn : Int32} {kd : Nat} (hL : 8 < l.length) (hH : okH rI0 g ρ (l.set 8 (.inr (5, [.ref 9, .int w, .int dp, .int dg, .int c, .int wt, .int mn, .ref kd])))) (hr : rdR ρ w wt mn kd) : mR (d + 1) 29 [.ref 8] (l.set 8 (.inr (5, [.ref 9, .int w, .int dp, .int dg, .int c, .int wt, .int mn, .ref kd])), s) (fun r h' => (dp = 0 ∧ r = some (.int 0)) ∨ (¬ dp = 0 ∧ r = some (.int 1) ∧ ∃ w' : Int32, h'.1[8]? = some (.inr (5, [.ref 9, .int w', .int ((dp - 1)), .int 0, .int c, .int wt, .int mn, .ref kd])))) := by
  refine mR_ix [(0, .ref 8)] rfl rfl rfl ?_
  refine mE_aldn 1 rfl rfl rfl rfl ?_
  refine p_get rfl rfl rfl hL ?_
  refine mE_if_ne rfl (fun h4 => ?_) (fun h4 => ?_)
  · refine mE_aldn 10 rfl rfl rfl rfl ?_
    refine mE_ico 11 (1) rfl rfl rfl ?_
    refine mE_cv [.int 1] [] rfl rfl rfl rfl (List.getElem?_set_self hL) rfl ?_
    obtain ⟨r, hA, k1, hH4, -, rfl⟩ := hall 54 _ rfl g ρ [.ref 8, .int 1] (l.set 8 (.inr (5, [.ref 9, .int w, .int dp, .int dg, .int c, .int wt, .int mn, .ref kd])), s) hg hH ⟨⟨8, rfl, hr.1⟩, a32_ok _, trivial⟩ (fun q hq => by cases hq)
    refine ⟨_, _, k1, ?_⟩
    obtain ⟨w1, e4, hw1⟩ := rd_fk hH4 hr.1 hr.2.1 (List.getElem?_set_self hL) (mcall_fk fS_5 _ _ _ _ _ _ (by decide) k1)
    have hL : 8 < hA.1.length := (List.getElem?_eq_some_iff.mp e4).1
    rw [nf8 e4]
    refine mE_aldn 15 rfl rfl rfl rfl ?_
    refine mE_ico 16 (0) rfl rfl rfl ?_
    refine mE_aldn 17 rfl rfl rfl rfl ?_
    refine p_get rfl rfl rfl hL ?_
    refine mE_ico 21 (1) rfl rfl rfl ?_
    refine mE_isub 22 (w1 - 1) rfl rfl rfl ?_
    generalize hwm : (if (0 : Int32) < w1 - 1 then w1 - 1 else 0) = wm
    refine mE_max 25 wm rfl rfl rfl hwm rfl ?_
    refine p_put [.ref 9, .int wm, .int dp, .int dg, .int c, .int wt, .int mn, .ref kd] rfl rfl rfl rfl hL ?_
    refine mE_aldn 29 rfl rfl rfl rfl ?_
    refine mE_dup 30 rfl rfl rfl ?_
    refine p_get rfl rfl rfl hL ?_
    refine mE_ico 34 (1) rfl rfl rfl ?_
    refine mE_isub 35 (dp - 1) rfl rfl rfl ?_
    refine p_put [.ref 9, .int wm, .int (dp - 1), .int dg, .int c, .int wt, .int mn, .ref kd] rfl rfl rfl rfl hL ?_
    refine mE_aldn 39 rfl rfl rfl rfl ?_
    refine mE_ico 40 (0) rfl rfl rfl ?_
    refine p_put [.ref 9, .int wm, .int (dp - 1), .int 0, .int c, .int wt, .int mn, .ref kd] rfl rfl rfl rfl hL ?_
    refine mE_ico 44 (1) rfl rfl rfl ?_
    exact mE_iret rfl ⟨rfl, Or.inr ⟨h4, rfl, wm, List.getElem?_set_self hL⟩⟩
  · refine mE_ico 8 (0) rfl rfl rfl ?_
    exact mE_iret rfl ⟨rfl, Or.inl ⟨Classical.not_not.mp h4, rfl⟩⟩
set_option maxRecDepth 10000 in
set_option maxHeartbeats 1000000 in
theorem r_oper {d : Nat} (hall : CTall ci_early d) {g : Nat → Int} {ρ : List Nat} (hg : okG aBl g) {l : List mC} {s : Nat} {w dp dg c wt mn b z : Int32} {kd : Nat} (hL : 8 < l.length) (hH : okH rI0 g ρ (l.set 8 (.inr (5, [.ref 9, .int w, .int dp, .int dg, .int c, .int wt, .int mn, .ref kd])))) (hr : rdR ρ w wt mn kd) : mR (d + 1) 26 [.ref 8, .int b, .int z] (l.set 8 (.inr (5, [.ref 9, .int w, .int dp, .int dg, .int c, .int wt, .int mn, .ref kd])), s) (fun r h' => r = some (.int 1) ∧ ∃ w' : Int32, h'.1[8]? = some (.inr (5, [.ref 9, .int w', .int dp, .int dg, .int c, .int 1, .int (if isBo b then 1 else 0), .ref kd]))) := by
  refine mR_ix [(0, .ref 8), (1, .int b), (2, .int z)] rfl rfl rfl ?_
  refine mE_aldn 1 rfl rfl rfl rfl ?_
  refine mE_ildn 2 rfl rfl rfl rfl ?_
  refine mE_cv [.int z] [] rfl rfl rfl rfl (List.getElem?_set_self hL) rfl ?_
  obtain ⟨r, h4, k1, hH4, -, rfl⟩ := hall 54 _ rfl g ρ [.ref 8, .int z] (l.set 8 (.inr (5, [.ref 9, .int w, .int dp, .int dg, .int c, .int wt, .int mn, .ref kd])), s) hg hH ⟨⟨8, rfl, hr.1⟩, a32_ok _, trivial⟩ (fun q hq => by cases hq)
  refine ⟨_, _, k1, ?_⟩
  obtain ⟨w1, e4, hw1⟩ := rd_fk hH4 hr.1 hr.2.1 (List.getElem?_set_self hL) (mcall_fk fS_5 _ _ _ _ _ _ (by decide) k1)
  have hL4 : 8 < h4.1.length := (List.getElem?_eq_some_iff.mp e4).1
  refine mE_aldn 6 rfl rfl rfl rfl ?_
  refine mE_ildn 7 rfl rfl rfl rfl ?_
  refine mE_cv [.int b] [] rfl rfl rfl rfl e4 rfl ?_
  obtain ⟨r, h5, k2, hH5, -, rfl⟩ := hall 49 _ rfl g ρ [.ref 8, .int b] h4 hg hH4 ⟨⟨8, rfl, hr.1⟩, a32_ok _, trivial⟩ (fun q hq => by cases hq)
  refine ⟨_, _, k2, ?_⟩
  obtain ⟨w2, e5, hw2⟩ := rd_fk hH5 hr.1 hr.2.1 e4 (mcall_fk fS_5 _ _ _ _ _ _ (by decide) k2)
  have hL : 8 < h5.1.length := (List.getElem?_eq_some_iff.mp e5).1
  rw [nf8 e5]
  refine mE_aldn 11 rfl rfl rfl rfl ?_
  refine mE_ico 12 (1) rfl rfl rfl ?_
  refine p_put [.ref 9, .int w2, .int dp, .int dg, .int c, .int 1, .int mn, .ref kd] rfl rfl rfl rfl hL ?_
  refine mE_aldn 16 rfl rfl rfl rfl ?_
  refine mE_ildn 17 rfl rfl rfl rfl ?_
  refine mE_bip 19 (38) rfl rfl rfl ?_
  refine mE_ic_eq rfl (fun h19 => ?_) (fun h19 => ?_)
  · refine mE_ico 29 (1) rfl rfl rfl ?_
    refine mE_goto 33 rfl rfl ?_
    refine p_put [.ref 9, .int w2, .int dp, .int dg, .int c, .int 1, .int 1, .ref kd] rfl rfl rfl rfl hL ?_
    refine mE_ico 37 (1) rfl rfl rfl ?_
    exact mE_iret rfl ⟨rfl, rfl, w2, by rw [if_pos (show isBo b from Or.inl h19)]; exact List.getElem?_set_self hL⟩
  · refine mE_ildn 23 rfl rfl rfl rfl ?_
    refine mE_bip 25 (124) rfl rfl rfl ?_
    refine mE_ic_ne rfl (fun h25 => ?_) (fun h25 => ?_)
    · refine mE_ico 33 (0) rfl rfl rfl ?_
      refine p_put [.ref 9, .int w2, .int dp, .int dg, .int c, .int 1, .int 0, .ref kd] rfl rfl rfl rfl hL ?_
      refine mE_ico 37 (1) rfl rfl rfl ?_
      exact mE_iret rfl ⟨rfl, rfl, w2, by rw [if_neg (show ¬ isBo b from by rintro (q | q); exact h19 q; exact h25 q)]; exact List.getElem?_set_self hL⟩
    · refine mE_ico 29 (1) rfl rfl rfl ?_
      refine mE_goto 33 rfl rfl ?_
      refine p_put [.ref 9, .int w2, .int dp, .int dg, .int c, .int 1, .int 1, .ref kd] rfl rfl rfl rfl hL ?_
      refine mE_ico 37 (1) rfl rfl rfl ?_
      exact mE_iret rfl ⟨rfl, rfl, w2, by rw [if_pos (show isBo b from Or.inr (Classical.not_not.mp h25))]; exact List.getElem?_set_self hL⟩
