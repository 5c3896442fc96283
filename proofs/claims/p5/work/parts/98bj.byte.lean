/-! one byte of the tape -/
abbrev PS : Type := Int32 × Int32 × Int32 × Int32 × Int32
def psOp (b dp dg c wt mn : Int32) : Option PS := if isDg b then some (dp, 1, c, 0, mn) else if ¬ midx b < 0 then some (dp, 0, c, 0, mn) else if b = 33 ∧ ¬ mn = 0 then some (dp, dg, c, wt, mn) else if b = 40 ∧ ¬ dp = 12 then some (dp + 1, dg, c &&& (((1 : Int32) <<< ((dp + 1) &&& 31)) ^^^ (-1)), wt, 1) else none
def psBe (b dp dg c wt mn : Int32) : Option PS := if isDg b then (if dg = 0 ∨ dg = 3 then none else some (dp, dg + 1, c, wt, mn)) else if b = 41 then (if dp = 0 then none else some (dp - 1, 0, c, wt, mn)) else if isBo b then some (dp, dg, c &&& (((1 : Int32) <<< (dp &&& 31)) ^^^ (-1)), 1, 1) else if isRl b then (if c &&& ((1 : Int32) <<< (dp &&& 31)) = 0 then some (dp, dg, c ||| ((1 : Int32) <<< (dp &&& 31)), 1, 0) else none) else if b = 43 ∨ b = 45 ∨ b = 42 then some (dp, dg, c, 1, 0) else none
def psSt (b : Int32) (s : PS) : Option PS := if s.2.2.2.1 = 0 then psBe b s.1 s.2.1 s.2.2.1 s.2.2.2.1 s.2.2.2.2 else psOp b s.1 s.2.1 s.2.2.1 s.2.2.2.1 s.2.2.2.2
def psRun : List Int32 → Int32 → PS → Int32
  | [], k, s => if s.2.2.2.1 = 0 ∧ s.1 ≤ 0 then -1 else k
  | b :: xs, k, s => match psSt b s with
    | none => k
    | some s' => psRun xs (k + 1) s'
def psR (o : Option PS) (kd : Nat) (r : Option Value) (h' : mS) : Prop := match o with
  | none => r = some (.int 0)
  | some s => r = some (.int 1) ∧ ∃ w : Int32, h'.1[8]? = some (.inr (5, [.ref 9, .int w, .int s.1, .int s.2.1, .int s.2.2.1, .int s.2.2.2.1, .int s.2.2.2.2, .ref kd]))
theorem psR_none {o : Option PS} {kd : Nat} {h' : mS} (e : o = none) : psR o kd (some (.int 0)) h' := by rw [e]; rfl
theorem psR_some {o : Option PS} {s : PS} {kd : Nat} {h' : mS} (w : Int32) (e : o = some s) (f : h'.1[8]? = some (.inr (5, [.ref 9, .int w, .int s.1, .int s.2.1, .int s.2.2.1, .int s.2.2.2.1, .int s.2.2.2.2, .ref kd]))) : psR o kd (some (.int 1)) h' := by rw [e]; exact ⟨rfl, w, f⟩
theorem strg_ne {b : Int32} (h1 : ¬ strg b = 0) (h2 : ¬ b = 33) (h3 : ¬ isBo b) (h4 : ¬ isRl b) : b = 43 ∨ b = 45 ∨ b = 42 := by
  unfold strg at h1
  rw [if_neg (fun q => h3 (Or.inr q)), if_neg (fun q => h3 (Or.inl q)), if_neg h2, if_neg (show ¬ (b = 60 ∨ b = 61 ∨ b = 62) from h4)] at h1
  by_cases h5 : b = 43 ∨ b = 45
  · rcases h5 with h5 | h5
    · exact Or.inl h5
    · exact Or.inr (Or.inl h5)
  · rw [if_neg h5] at h1
    by_cases h6 : b = 42
    · exact Or.inr (Or.inr h6)
    · rw [if_neg h6] at h1
      exact absurd rfl h1
theorem strg_0 {b : Int32} (h1 : strg b = 0) : ¬ isBo b ∧ ¬ isRl b ∧ ¬ (b = 43 ∨ b = 45 ∨ b = 42) := by
  refine ⟨?_, ?_, ?_⟩
  · rintro (q | q) <;> subst q <;> exact absurd h1 (by decide)
  · rintro (q | q | q) <;> subst q <;> exact absurd h1 (by decide)
  · rintro (q | q | q) <;> subst q <;> exact absurd h1 (by decide)
set_option maxRecDepth 10000 in
set_option maxHeartbeats 1000000 in
theorem r_opnd {d : Nat} (hall : CTall ci_early d) {g : Nat → Int} {ρ : List Nat} (hg : okG aBl g) {l : List mC} {s : Nat} {w dp dg c wt mn b : Int32} {kd : Nat} (hL : 8 < l.length) (hH : okH rI0 g ρ (l.set 8 (.inr (5, [.ref 9, .int w, .int dp, .int dg, .int c, .int wt, .int mn, .ref kd])))) (hr : rdR ρ w wt mn kd) (b0 : 0 ≤ b.toInt) (b1 : b.toInt ≤ 255) : mR (d + 6) 24 [.ref 8, .int b] (l.set 8 (.inr (5, [.ref 9, .int w, .int dp, .int dg, .int c, .int wt, .int mn, .ref kd])), s) (fun r h' => psR (psOp b dp dg c wt mn) kd r h') := by
  have hall4 : CTall ci_early (d + 4) := hall.le (by omega)
  have hall5 : CTall ci_early (d + 5) := hall.le (by omega)
  refine mR_ix [(0, .ref 8), (1, .int b)] rfl rfl rfl ?_
  refine mE_ildn 1 rfl rfl rfl rfl ?_
  refine mE_cs [.int b] [] rfl rfl rfl rfl rfl ?_
  obtain ⟨r, hA, kA, rfl, eA⟩ := r_isDigit (d + 4) b (l.set 8 (.inr (5, [.ref 9, .int w, .int dp, .int dg, .int c, .int wt, .int mn, .ref kd])), s)
  subst eA
  refine ⟨_, _, kA, ?_⟩
  refine mE_if_eq rfl (fun h4 => ?_) (fun h4 => ?_)
  · have h4 := bit0_iff.mp h4
    refine mE_ldcs 32 rfl rfl rfl ?_
    refine mE_ildn 33 rfl rfl rfl rfl ?_
    refine mE_i2c 34 b rfl (i2c_of b0 b1) rfl ?_
    refine p_cj [.int b] [] rfl rfl rfl rfl rfl rfl ?_
    obtain ⟨r, hC, kC, rfl, eC⟩ := r_indexOf (d + 1) b0 b1 (l.set 8 (.inr (5, [.ref 9, .int w, .int dp, .int dg, .int c, .int wt, .int mn, .ref kd])), s)
    subst eC
    refine ⟨_, _, kC, ?_⟩
    refine mE_istn 38 [(2, .int (midx b)), (0, .ref 8), (1, .int b)] rfl rfl rfl rfl ?_
    refine mE_ildn 39 rfl rfl rfl rfl ?_
    refine mE_if_lt rfl (fun h39 => ?_) (fun h39 => ?_)
    · refine mE_ildn 67 rfl rfl rfl rfl ?_
      refine mE_bip 69 (33) rfl rfl rfl ?_
      refine mE_ic_ne rfl (fun h69 => ?_) (fun h69 => ?_)
      · refine mE_ildn 87 rfl rfl rfl rfl ?_
        refine mE_bip 89 (40) rfl rfl rfl ?_
        refine mE_ic_ne rfl (fun h89 => ?_) (fun h89 => ?_)
        · refine mE_ico 104 (0) rfl rfl rfl ?_
          exact mE_iret rfl ⟨rfl, psR_none (by unfold psOp; rw [if_neg h4, if_neg (fun q => q h39), if_neg (fun q => h69 q.1), if_neg (fun q => h89 q.1)])⟩
        · refine mE_aldn 93 rfl rfl rfl rfl ?_
          refine mE_cv [] [] rfl rfl rfl rfl (List.getElem?_set_self hL) rfl ?_
          obtain ⟨r, hB, k1, ⟨p1, rfl⟩ | ⟨p1, rfl, w', e8⟩⟩ := r_open hall4 hg (s := s) hL hH hr
          · refine ⟨_, _, k1, ?_⟩
            refine mE_if_eq_t 103 rfl rfl rfl ?_
            refine mE_ico 104 0 rfl rfl rfl ?_
            exact mE_iret rfl ⟨rfl, psR_none (by unfold psOp; rw [if_neg h4, if_neg (fun q => q h39), if_neg (fun q => h69 q.1), if_neg (fun q => q.2 p1)])⟩
          · refine ⟨_, _, k1, ?_⟩
            refine mE_if_eq_f 99 rfl (by decide) rfl ?_
            refine mE_ico 100 1 rfl rfl rfl ?_
            refine mE_goto 104 rfl rfl ?_
            exact mE_iret rfl ⟨rfl, psR_some w' (by unfold psOp; rw [if_neg h4, if_neg (fun q => q h39), if_neg (fun q => h69 q.1), if_pos ⟨Classical.not_not.mp h89, p1⟩]) e8⟩
      · refine mE_aldn 73 rfl rfl rfl rfl ?_
        refine p_get rfl rfl rfl hL ?_
        refine mE_if_eq rfl (fun h76 => ?_) (fun h76 => ?_)
        · refine mE_ildn 87 rfl rfl rfl rfl ?_
          refine mE_bip 89 (40) rfl rfl rfl ?_
          refine mE_ic_ne rfl (fun h89 => ?_) (fun h89 => ?_)
          · refine mE_ico 104 (0) rfl rfl rfl ?_
            exact mE_iret rfl ⟨rfl, psR_none (by unfold psOp; rw [if_neg h4, if_neg (fun q => q h39), if_neg (fun q => q.2 h76), if_neg (fun q => h89 q.1)])⟩
          · refine mE_aldn 93 rfl rfl rfl rfl ?_
            refine mE_cv [] [] rfl rfl rfl rfl (List.getElem?_set_self hL) rfl ?_
            obtain ⟨r, hB, k1, ⟨p1, rfl⟩ | ⟨p1, rfl, w', e8⟩⟩ := r_open hall4 hg (s := s) hL hH hr
            · refine ⟨_, _, k1, ?_⟩
              refine mE_if_eq_t 103 rfl rfl rfl ?_
              refine mE_ico 104 0 rfl rfl rfl ?_
              exact mE_iret rfl ⟨rfl, psR_none (by unfold psOp; rw [if_neg h4, if_neg (fun q => q h39), if_neg (fun q => q.2 h76), if_neg (fun q => q.2 p1)])⟩
            · refine ⟨_, _, k1, ?_⟩
              refine mE_if_eq_f 99 rfl (by decide) rfl ?_
              refine mE_ico 100 1 rfl rfl rfl ?_
              refine mE_goto 104 rfl rfl ?_
              exact mE_iret rfl ⟨rfl, psR_some w' (by unfold psOp; rw [if_neg h4, if_neg (fun q => q h39), if_neg (fun q => q.2 h76), if_pos ⟨Classical.not_not.mp h89, p1⟩]) e8⟩
        · refine mE_aldn 80 rfl rfl rfl rfl ?_
          refine mE_ildn 81 rfl rfl rfl rfl ?_
          refine mE_cv [.int b] [] rfl rfl rfl rfl (List.getElem?_set_self hL) rfl ?_
          obtain ⟨r, hB, k1, hH4, -, rfl⟩ := hall5 49 _ rfl g ρ [.ref 8, .int b] (l.set 8 (.inr (5, [.ref 9, .int w, .int dp, .int dg, .int c, .int wt, .int mn, .ref kd])), s) hg hH ⟨⟨8, rfl, hr.1⟩, a32_ok _, trivial⟩ (fun q hq => by cases hq)
          refine ⟨_, _, k1, ?_⟩
          obtain ⟨w', e8, -⟩ := rd_fk hH4 hr.1 hr.2.1 (List.getElem?_set_self hL) (mcall_fk fS_5 _ _ _ _ _ _ (by decide) k1)
          refine mE_ico 85 (1) rfl rfl rfl ?_
          exact mE_iret rfl ⟨rfl, psR_some w' (by unfold psOp; rw [if_neg h4, if_neg (fun q => q h39), if_pos ⟨Classical.not_not.mp h69, h76⟩]) e8⟩
    · refine mE_aldn 43 rfl rfl rfl rfl ?_
      refine mE_ico 44 (0) rfl rfl rfl ?_
      refine p_put [.ref 9, .int w, .int dp, .int 0, .int c, .int wt, .int mn, .ref kd] rfl rfl rfl rfl hL ?_
      refine mE_aldn 48 rfl rfl rfl rfl ?_
      refine mE_ico 49 (0) rfl rfl rfl ?_
      refine p_put [.ref 9, .int w, .int dp, .int 0, .int c, .int 0, .int mn, .ref kd] rfl rfl rfl rfl hL ?_
      refine mE_aldn 53 rfl rfl rfl rfl ?_
      refine p_get rfl rfl rfl hL ?_
      refine mE_sip 59 (1000) rfl rfl rfl ?_
      refine mE_ildn 60 rfl rfl rfl rfl ?_
      refine mE_iadd 61 (1000 + (midx b)) rfl rfl rfl ?_
      have hH1 := rd_up (w := w) (dp := dp) (dg := 0) (c := c) (wt := 0) (mn := mn) (kd := kd) hH ⟨hr.1, hr.2.1, hr.2.2.1, i01, hr.2.2.2.2.1, hr.2.2.2.2.2⟩
      obtain ⟨fD, eD, -, -⟩ := fld hH1 hr.2.2.2.2.2 (show rI0 10 = some (.inl (9, rOf 10)) from rfl)
      refine mE_cv [.int (1000 + midx b)] [] rfl rfl rfl rfl eD rfl ?_
      obtain ⟨r, hB, k1, -, hF, rfl⟩ := hall5 40 _ rfl g ρ [.ref kd, .int (1000 + midx b)] (l.set 8 (.inr (5, [.ref 9, .int w, .int dp, .int 0, .int c, .int 0, .int mn, .ref kd])), s) hg hH1 ⟨⟨kd, rfl, hr.2.2.2.2.2⟩, a32_ok _, trivial⟩ (fun q hq => by cases hq)
      refine ⟨_, _, k1, ?_⟩
      have e8 := (hF.1 8 8 hr.1 (by decide)).trans (List.getElem?_set_self hL)
      refine mE_ico 65 (1) rfl rfl rfl ?_
      exact mE_iret rfl ⟨rfl, psR_some w (by unfold psOp; rw [if_neg h4, if_pos h39]) e8⟩
  · have h4 := Classical.not_not.mp (fun q => h4 (bit0_iff.mpr q))
    refine mE_aldn 8 rfl rfl rfl rfl ?_
    refine mE_ico 9 (1) rfl rfl rfl ?_
    refine p_put [.ref 9, .int w, .int dp, .int 1, .int c, .int wt, .int mn, .ref kd] rfl rfl rfl rfl hL ?_
    refine mE_aldn 13 rfl rfl rfl rfl ?_
    refine mE_ico 14 (0) rfl rfl rfl ?_
    refine p_put [.ref 9, .int w, .int dp, .int 1, .int c, .int 0, .int mn, .ref kd] rfl rfl rfl rfl hL ?_
    refine mE_aldn 18 rfl rfl rfl rfl ?_
    refine p_get rfl rfl rfl hL ?_
    refine mE_ildn 22 rfl rfl rfl rfl ?_
    refine mE_bip 24 (48) rfl rfl rfl ?_
    refine mE_isub 25 (b - 48) rfl rfl rfl ?_
    have hH1 := rd_up (w := w) (dp := dp) (dg := 1) (c := c) (wt := 0) (mn := mn) (kd := kd) hH ⟨hr.1, hr.2.1, hr.2.2.1, i01, hr.2.2.2.2.1, hr.2.2.2.2.2⟩
    obtain ⟨fD, eD, -, -⟩ := fld hH1 hr.2.2.2.2.2 (show rI0 10 = some (.inl (9, rOf 10)) from rfl)
    refine mE_cv [.int (b - 48)] [] rfl rfl rfl rfl eD rfl ?_
    obtain ⟨r, hB, k1, -, hF, rfl⟩ := hall5 40 _ rfl g ρ [.ref kd, .int (b - 48)] (l.set 8 (.inr (5, [.ref 9, .int w, .int dp, .int 1, .int c, .int 0, .int mn, .ref kd])), s) hg hH1 ⟨⟨kd, rfl, hr.2.2.2.2.2⟩, a32_ok _, trivial⟩ (fun q hq => by cases hq)
    refine ⟨_, _, k1, ?_⟩
    have e8 := (hF.1 8 8 hr.1 (by decide)).trans (List.getElem?_set_self hL)
    refine mE_ico 29 (1) rfl rfl rfl ?_
    exact mE_iret rfl ⟨rfl, psR_some w (by unfold psOp; rw [if_pos h4]) e8⟩
set_option maxRecDepth 10000 in
set_option maxHeartbeats 1000000 in
theorem r_behd {d : Nat} (hall : CTall ci_early d) {g : Nat → Int} {ρ : List Nat} (hg : okG aBl g) {l : List mC} {s : Nat} {w dp dg c wt mn b : Int32} {kd : Nat} (hL : 8 < l.length) (hH : okH rI0 g ρ (l.set 8 (.inr (5, [.ref 9, .int w, .int dp, .int dg, .int c, .int wt, .int mn, .ref kd])))) (hr : rdR ρ w wt mn kd) : mR (d + 6) 25 [.ref 8, .int b] (l.set 8 (.inr (5, [.ref 9, .int w, .int dp, .int dg, .int c, .int wt, .int mn, .ref kd])), s) (fun r h' => psR (psBe b dp dg c wt mn) kd r h') := by
  have hall4 : CTall ci_early (d + 4) := hall.le (by omega)
  have hall5 : CTall ci_early (d + 5) := hall.le (by omega)
  refine mR_ix [(0, .ref 8), (1, .int b)] rfl rfl rfl ?_
  refine mE_ildn 1 rfl rfl rfl rfl ?_
  refine mE_cs [.int b] [] rfl rfl rfl rfl rfl ?_
  obtain ⟨r, hA, kA, rfl, eA⟩ := r_isDigit (d + 4) b (l.set 8 (.inr (5, [.ref 9, .int w, .int dp, .int dg, .int c, .int wt, .int mn, .ref kd])), s)
  subst eA
  refine ⟨_, _, kA, ?_⟩
  refine mE_if_eq rfl (fun h4 => ?_) (fun h4 => ?_)
  · have h4 := bit0_iff.mp h4
    refine mE_ildn 48 rfl rfl rfl rfl ?_
    refine mE_bip 50 (41) rfl rfl rfl ?_
    refine mE_ic_ne rfl (fun h50 => ?_) (fun h50 => ?_)
    · refine mE_ildn 59 rfl rfl rfl rfl ?_
      refine mE_cs [.int b] [] rfl rfl rfl rfl rfl ?_
      obtain ⟨r, hC, kC, rfl, eC⟩ := r_strength (d + 4) b (l.set 8 (.inr (5, [.ref 9, .int w, .int dp, .int dg, .int c, .int wt, .int mn, .ref kd])), s)
      subst eC
      refine ⟨_, _, kC, ?_⟩
      refine mE_istn 63 [(2, .int (strg b)), (0, .ref 8), (1, .int b)] rfl rfl rfl rfl ?_
      refine mE_ildn 64 rfl rfl rfl rfl ?_
      refine mE_if_eq rfl (fun h64 => ?_) (fun h64 => ?_)
      · refine mE_ico 74 (0) rfl rfl rfl ?_
        exact mE_iret rfl ⟨rfl, psR_none (by unfold psBe; rw [if_neg h4, if_neg h50, if_neg (strg_0 h64).1, if_neg (strg_0 h64).2.1, if_neg (strg_0 h64).2.2])⟩
      · refine mE_ildn 68 rfl rfl rfl rfl ?_
        refine mE_bip 70 (33) rfl rfl rfl ?_
        refine mE_ic_ne rfl (fun h70 => ?_) (fun h70 => ?_)
        · refine mE_aldn 76 rfl rfl rfl rfl ?_
          refine mE_ildn 77 rfl rfl rfl rfl ?_
          refine mE_cv [.int b] [] rfl rfl rfl rfl (List.getElem?_set_self hL) rfl ?_
          obtain ⟨r, hN, k1, v, c', rfl, rfl, hnc⟩ := r_note (d := d + 4) (b := b) (s := s) (w := w) (dp := dp) (dg := dg) (c := c) (wt := wt) (mn := mn) (kd := kd) hL
          refine ⟨_, _, k1, ?_⟩
          rcases hnc with ⟨n1, rfl, rfl⟩ | ⟨n1, n2, rfl, rfl⟩ | ⟨n1, n2, rfl, ec⟩ | ⟨n1, rfl, ec⟩
          · refine mE_if_eq_f 83 rfl (by decide) rfl ?_
            refine mE_aldn 84 rfl rfl rfl rfl ?_
            refine mE_ildn 85 rfl rfl rfl rfl ?_
            refine mE_ildn 86 rfl rfl rfl rfl ?_
            refine mE_cv [.int b, .int (strg b)] [] rfl rfl rfl rfl (List.getElem?_set_self hL) rfl ?_
            obtain ⟨r, hB, k2, rfl, w', e8⟩ := r_oper hall4 hg (b := b) (z := strg b) (s := s) hL (rd_up (w := w) (dp := dp) (dg := dg) (c := (c &&& (((1 : Int32) <<< (dp &&& 31)) ^^^ (-1)))) (wt := wt) (mn := mn) (kd := kd) hH hr) hr
            refine ⟨_, _, k2, ?_⟩
            rw [if_pos n1] at e8
            refine mE_if_eq_f 92 rfl (by decide) rfl ?_
            refine mE_ico 93 1 rfl rfl rfl ?_
            refine mE_goto 97 rfl rfl ?_
            exact mE_iret rfl ⟨rfl, psR_some w' (by unfold psBe; rw [if_neg h4, if_neg h50, if_pos n1]) e8⟩
          · refine mE_if_eq_f 83 rfl (by decide) rfl ?_
            refine mE_aldn 84 rfl rfl rfl rfl ?_
            refine mE_ildn 85 rfl rfl rfl rfl ?_
            refine mE_ildn 86 rfl rfl rfl rfl ?_
            refine mE_cv [.int b, .int (strg b)] [] rfl rfl rfl rfl (List.getElem?_set_self hL) rfl ?_
            obtain ⟨r, hB, k2, rfl, w', e8⟩ := r_oper hall4 hg (b := b) (z := strg b) (s := s) hL (rd_up (w := w) (dp := dp) (dg := dg) (c := (c ||| ((1 : Int32) <<< (dp &&& 31)))) (wt := wt) (mn := mn) (kd := kd) hH hr) hr
            refine ⟨_, _, k2, ?_⟩
            rw [if_neg (fun q => by rcases n1 with n1 | n1 | n1 <;> subst n1 <;> rcases q with q | q <;> exact absurd q (by decide) : ¬ isBo b)] at e8
            refine mE_if_eq_f 92 rfl (by decide) rfl ?_
            refine mE_ico 93 1 rfl rfl rfl ?_
            refine mE_goto 97 rfl rfl ?_
            exact mE_iret rfl ⟨rfl, psR_some w' (by unfold psBe; rw [if_neg h4, if_neg h50, if_neg (fun q => by rcases n1 with n1 | n1 | n1 <;> subst n1 <;> rcases q with q | q <;> exact absurd q (by decide) : ¬ isBo b), if_pos n1, if_pos n2]) e8⟩
          · obtain rfl := ec.symm
            refine mE_if_eq_t 96 rfl rfl rfl ?_
            refine mE_ico 97 0 rfl rfl rfl ?_
            exact mE_iret rfl ⟨rfl, psR_none (by unfold psBe; rw [if_neg h4, if_neg h50, if_neg (fun q => by rcases n1 with n1 | n1 | n1 <;> subst n1 <;> rcases q with q | q <;> exact absurd q (by decide) : ¬ isBo b), if_pos n1, if_neg n2])⟩
          · obtain rfl := ec.symm
            refine mE_if_eq_f 83 rfl (by decide) rfl ?_
            refine mE_aldn 84 rfl rfl rfl rfl ?_
            refine mE_ildn 85 rfl rfl rfl rfl ?_
            refine mE_ildn 86 rfl rfl rfl rfl ?_
            refine mE_cv [.int b, .int (strg b)] [] rfl rfl rfl rfl (List.getElem?_set_self hL) rfl ?_
            obtain ⟨r, hB, k2, rfl, w', e8⟩ := r_oper hall4 hg (b := b) (z := strg b) (s := s) hL (rd_up (w := w) (dp := dp) (dg := dg) (c := c) (wt := wt) (mn := mn) (kd := kd) hH hr) hr
            refine ⟨_, _, k2, ?_⟩
            rw [if_neg n1.1] at e8
            refine mE_if_eq_f 92 rfl (by decide) rfl ?_
            refine mE_ico 93 1 rfl rfl rfl ?_
            refine mE_goto 97 rfl rfl ?_
            exact mE_iret rfl ⟨rfl, psR_some w' (by unfold psBe; rw [if_neg h4, if_neg h50, if_neg n1.1, if_neg n1.2, if_pos (strg_ne h64 h70 n1.1 n1.2)]) e8⟩
        · refine mE_ico 74 (0) rfl rfl rfl ?_
          exact mE_iret rfl ⟨rfl, psR_none (by have e := Classical.not_not.mp h70; subst e; rfl)⟩
    · refine mE_aldn 54 rfl rfl rfl rfl ?_
      refine mE_cv [] [] rfl rfl rfl rfl (List.getElem?_set_self hL) rfl ?_
      obtain ⟨r, hB, k1, ⟨p1, rfl⟩ | ⟨p1, rfl, w', e8⟩⟩ := r_close hall4 hg (s := s) hL hH hr
      · refine ⟨_, _, k1, ?_⟩
        exact mE_iret rfl ⟨rfl, psR_none (by unfold psBe; rw [if_neg h4, if_pos (Classical.not_not.mp h50), if_pos p1])⟩
      · refine ⟨_, _, k1, ?_⟩
        exact mE_iret rfl ⟨rfl, psR_some w' (by unfold psBe; rw [if_neg h4, if_pos (Classical.not_not.mp h50), if_neg p1]) e8⟩
  · have h4 := Classical.not_not.mp (fun q => h4 (bit0_iff.mpr q))
    refine mE_aldn 8 rfl rfl rfl rfl ?_
    refine p_get rfl rfl rfl hL ?_
    refine mE_if_eq rfl (fun h11 => ?_) (fun h11 => ?_)
    · refine mE_ico 23 (0) rfl rfl rfl ?_
      exact mE_iret rfl ⟨rfl, psR_none (by unfold psBe; rw [if_pos h4, if_pos (Or.inl h11)])⟩
    · refine mE_aldn 15 rfl rfl rfl rfl ?_
      refine p_get rfl rfl rfl hL ?_
      refine mE_ico 19 (3) rfl rfl rfl ?_
      refine mE_ic_ne rfl (fun h19 => ?_) (fun h19 => ?_)
      · refine mE_aldn 25 rfl rfl rfl rfl ?_
        refine mE_dup 26 rfl rfl rfl ?_
        refine p_get rfl rfl rfl hL ?_
        refine mE_ico 30 (1) rfl rfl rfl ?_
        refine mE_iadd 31 (dg + 1) rfl rfl rfl ?_
        refine p_put [.ref 9, .int w, .int dp, .int (dg + 1), .int c, .int wt, .int mn, .ref kd] rfl rfl rfl rfl hL ?_
        refine mE_aldn 35 rfl rfl rfl rfl ?_
        refine p_get rfl rfl rfl hL ?_
        refine mE_ildn 39 rfl rfl rfl rfl ?_
        refine mE_bip 41 (48) rfl rfl rfl ?_
        refine mE_isub 42 (b - 48) rfl rfl rfl ?_
        have hH1 := rd_up (w := w) (dp := dp) (dg := dg + 1) (c := c) (wt := wt) (mn := mn) (kd := kd) hH hr
        obtain ⟨fD, eD, -, -⟩ := fld hH1 hr.2.2.2.2.2 (show rI0 10 = some (.inl (9, rOf 10)) from rfl)
        refine mE_cv [.int (b - 48)] [] rfl rfl rfl rfl eD rfl ?_
        obtain ⟨r, hB, k1, -, hF, rfl⟩ := hall5 52 _ rfl g ρ [.ref kd, .int (b - 48)] (l.set 8 (.inr (5, [.ref 9, .int w, .int dp, .int (dg + 1), .int c, .int wt, .int mn, .ref kd])), s) hg hH1 ⟨⟨kd, rfl, hr.2.2.2.2.2⟩, a32_ok _, trivial⟩ (fun q hq => by cases hq)
        refine ⟨_, _, k1, ?_⟩
        have e8 := (hF.1 8 8 hr.1 (by decide)).trans (List.getElem?_set_self hL)
        refine mE_ico 46 (1) rfl rfl rfl ?_
        exact mE_iret rfl ⟨rfl, psR_some w (by unfold psBe; rw [if_pos h4, if_neg (by rintro (q | q); exact h11 q; exact h19 q)]) e8⟩
      · refine mE_ico 23 (0) rfl rfl rfl ?_
        exact mE_iret rfl ⟨rfl, psR_none (by unfold psBe; rw [if_pos h4, if_pos (Or.inr (Classical.not_not.mp h19))])⟩
