/-! level by level -/
theorem sg_le {b : Int32} : sg b ≤ 6 := by
  unfold sg
  repeat' split
  all_goals decide
theorem midx_rng (b : Int32) : -1 ≤ (midx b).toInt ∧ (midx b).toInt ≤ 9 := by
  unfold midx
  repeat' split
  all_goals decide
theorem pOp {νi : Int32 → Int32} {b : Int32} (h : 0 < sg b) (h33 : ¬ b = 33) (x y : Int32) (V : List Int32) : pStp νi (2000 + b) (y :: x :: V) = eApp b x y :: V := by
  rcases sg_cases h with e | e | e | (e | e | e) | (e | e) | e <;> subst e
  all_goals first
    | exact absurd rfl h33
    | (unfold pStp; rw [if_neg (by decide), if_neg (by decide)]; rfl)
theorem pNum {νi : Int32 → Int32} {x : Int32} (h : x.toInt < 1000) (V : List Int32) : pStp νi x V = x :: V := by
  have e2 : (2000 : Int32).toInt = 2000 := by decide
  have e1 : (1000 : Int32).toInt = 1000 := by decide
  unfold pStp
  rw [if_pos (Int32.lt_iff_toInt_lt.mpr (by omega)), if_pos (Int32.lt_iff_toInt_lt.mpr (by omega))]
theorem pName {νi : Int32 → Int32} {b : Int32} (h : ¬ midx b < 0) (V : List Int32) : pStp νi (1000 + midx b) V = νi (midx b) :: V := by
  have e2 : (2000 : Int32).toInt = 2000 := by decide
  have e1 : (1000 : Int32).toInt = 1000 := by decide
  have r := midx_rng b
  have a1 : (1000 + midx b).toInt = 1000 + (midx b).toInt := by rw [add_id (by omega) (by omega), e1]
  have e0 : (0 : Int32).toInt = 0 := by decide
  have h0 := Int32.le_iff_toInt_le.mp (Int32.not_lt.mp h)
  have a2 : 1000 + midx b - 1000 = midx b := Int32.toInt_inj.mp (by rw [sub_id (by omega) (by omega), a1, e1]; omega)
  unfold pStp
  rw [if_pos (Int32.lt_iff_toInt_lt.mpr (by omega)), if_neg (fun q => by have := Int32.lt_iff_toInt_lt.mp q; omega), a2]
theorem nxt_of {s : List Int32} {τ : RSt} (ha : acc s τ) (hw : τ.1.2.2.2.1 = 0) (hd : ∀ b r, s = b :: r → ¬ isDg b) : nxt 7 s := by
  intro b r e
  subst e
  obtain ⟨σ', h1, -⟩ := acc_cons ha
  refine ⟨hd b r rfl, ?_⟩
  rcases be_next (by rw [h1]; rfl) hw (hd b r rfl) with q | q
  · exact Or.inl q
  · exact Or.inr ⟨q.1, by have := sg_le (b := b); omega, q.2⟩
/-- a level, at depth D: operands first -/
def OkA (νi : Int32 → Int32) (D M L : Nat) (e : List Int32 → PV) (f : List Int32 → Prop) : Prop := ∀ (s : List Int32) (σ : RSt), s.length ≤ M → σ.1.1.toInt = D → ¬ σ.1.2.2.2.1 = 0 → acc s σ → (∀ b r, s = b :: r → ¬ b = 33) → ctx L σ.2.2 → Lvl νi L (D + 1) e f s σ
def OkB (νi : Int32 → Int32) (D M L : Nat) (e : List Int32 → PV) (f : List Int32 → Prop) : Prop := ∀ (s : List Int32) (σ : RSt), s.length ≤ M → σ.1.1.toInt = D → ¬ σ.1.2.2.2.1 = 0 → ¬ σ.1.2.2.2.2 = 0 → σ.1.2.2.1 &&& bt D = 0 → acc s σ → ctx L σ.2.2 → Lvl νi L D e f s σ
theorem Res.weak {νi : Int32 → Int32} {L L' Ln m m' : Nat} {v : Int32} {s s' : List Int32} {σ τ : RSt} (h : Res νi L Ln m v s s' σ τ) (hL : L' ≤ L) (hm : m' ≤ m) : Res νi L' Ln m' v s s' σ τ := by
  obtain ⟨a1, a2, a3, a4, a5, ⟨W2, C, b1, b2, b3, b4⟩, a7⟩ := h
  exact ⟨a1, a2, a3, a4, a5.le hm, ⟨W2, C, b1, fun o ho => Nat.le_trans hL (b2 o ho), b3, b4⟩, a7⟩
set_option maxHeartbeats 1000000 in
theorem lv7 {ν νi : Int32 → Int32} (hν : ∀ b, ¬ midx b < 0 → νi (midx b) = ν b) {any : List Int32 → PV} {fany : List Int32 → Prop} {D M : Nat} (hD : D ≤ 12) (ih : D + 1 ≤ 12 → OkB νi (D + 1) (M - 1) 1 any fany) : OkA νi D M 7 (eOne ν any) (fOne any fany) := by
  intro s σ hM hdp hw ha h33 _
  have e48 : (48 : Int32).toInt = 48 := by decide
  have e12 : (12 : Int32).toInt = 12 := by decide
  have e1 : (1 : Int32).toInt = 1 := by decide
  cases s with
  | nil => exact absurd (acc_nil ha).1 hw
  | cons b r =>
    obtain ⟨σ1, h1, h2⟩ := acc_cons ha
    obtain ⟨h3, h4⟩ := rdB_eq h1
    unfold psSt at h3
    rw [if_neg hw] at h3
    unfold psOp at h3
    unfold rdPW at h4
    rw [if_neg hw] at h4
    by_cases hd : isDg b
    · rw [if_pos hd] at h3 h4
      have h3 := (Option.some.inj h3).symm
      have d2 := hd
      obtain ⟨d0, d1⟩ := d2
      have n1 : (b - 48).toInt = b.toInt - 48 := by rw [sub_id (by omega) (by omega), e48]
      obtain ⟨u, s', τ, x', g1, g2, g3, g4, g5, g6, ⟨g7, g8, g9⟩, g10, g11⟩ := lvDig (P0 := σ.2.1) r σ1 (b - 48) (by rw [h3]) (by rw [h4]) h2 ⟨by omega, Or.inl ⟨by rw [h3], by omega⟩⟩
      have he : eOne ν any (b :: r) = (x', s') := by
        show (if b = 40 then _ else if isDg b then eDig (b - 48) r else (ν b, r)) = _
        rw [if_neg (fun e => by subst e; exact absurd hd (by decide)), if_pos hd]
        exact g4
      refine ⟨s', τ, ⟨⟨b :: u, List.cons_ne_nil _ _, by rw [g1]; rfl, ?_⟩, g3, g7, by rw [g8, h3], fun k _ => by rw [g9, h3], ⟨[], [x'], by rw [g6, h4]; rfl, fun o ho => (by cases ho), by rw [g5]; simp, fun V => ?_⟩, nxt_of g3 g7 g11⟩, by rw [he], fun e => by subst e; exact absurd hd (by decide)⟩
      · show (rdB b σ).bind (rdS u) = some τ
        rw [h1]
        exact g2
      · rw [he]
        exact pNum g10.2 V
    · rw [if_neg hd] at h3 h4
      by_cases hn : ¬ midx b < 0
      · rw [if_pos hn] at h3 h4
        have h3 := (Option.some.inj h3).symm
        have he : eOne ν any (b :: r) = (ν b, r) := by
          show (if b = 40 then _ else if isDg b then eDig (b - 48) r else (ν b, r)) = _
          rw [if_neg (fun e => by subst e; exact hn (by decide)), if_neg hd]
        have hw1 : σ1.1.2.2.2.1 = 0 := by rw [h3]
        refine ⟨r, σ1, ⟨⟨[b], List.cons_ne_nil _ _, rfl, rdS_one h1⟩, h2, hw1, by rw [h3], fun k _ => by rw [h3], ⟨[], [1000 + midx b], by rw [h4]; rfl, fun o ho => (by cases ho), by rw [h4]; simp, fun V => ?_⟩, nxt_of h2 hw1 (fun b' r' e => ?_)⟩, by rw [he], fun e => by subst e; exact absurd (by decide) hn⟩
        · rw [he]
          show pStp νi (1000 + midx b) V = ν b :: V
          rw [pName hn, hν b hn]
        · subst e
          intro hd'
          obtain ⟨σ2, k1, -⟩ := acc_cons h2
          obtain ⟨k2, -⟩ := rdB_eq k1
          unfold psSt at k2
          rw [if_pos hw1] at k2
          unfold psBe at k2
          rw [if_pos hd', if_pos (Or.inl (by rw [h3]))] at k2
          cases k2
      · rw [if_neg hn] at h3 h4
        rw [if_neg (fun q => h33 b r rfl q.1)] at h3
        by_cases h40 : b = 40 ∧ ¬ σ.1.1 = 12
        · rw [if_pos h40] at h3
          have h3 := (Option.some.inj h3).symm
          obtain ⟨rfl, n12⟩ := h40
          have hD1 : D + 1 ≤ 12 := by
            rcases Nat.lt_or_ge D 12 with q | q
            · omega
            · exact absurd (Int32.toInt_inj.mp (show σ.1.1.toInt = (12 : Int32).toInt by omega)) n12
          have dp1 : (σ.1.1 + 1).toInt = ((D + 1 : Nat) : Int) := by rw [add_id (by omega) (by omega), e1]; omega
          have hbt : (1 : Int32) <<< ((σ.1.1 + 1) &&& 31) = bt (D + 1) := by
            rw [bt_dp (by omega) (by omega)]
            congr 1
            show (σ.1.1 + 1).toInt.toNat = D + 1
            omega
          obtain ⟨s', τ, ⟨⟨u, u1, u2, u3⟩, a2, a3, a4, a5, ⟨W2, C, b1, b2, b3, b4⟩, a7⟩, a8, a9⟩ := ih hD1 r σ1 (by simp at hM; omega) (by rw [h3]; exact dp1) (by rw [h3]; exact hw) (by rw [h3]; show ¬ (1 : Int32) = 0; decide) (by rw [h3]; show (σ.1.2.2.1 &&& (((1 : Int32) <<< ((σ.1.1 + 1) &&& 31)) ^^^ (-1))) &&& bt (D + 1) = 0; rw [hbt, c_nn (by omega) (by omega), if_pos rfl]) h2 (fun o W' e => by rw [h4] at e; cases e; decide)
          have hs' : ∃ r2, s' = 41 :: r2 := by
            cases s' with
            | nil =>
              exfalso
              have := (acc_nil a2).2
              rw [a4, h3] at this
              have := Int32.le_iff_toInt_le.mp this
              have e0 : (0 : Int32).toInt = 0 := by decide
              have : (σ.1.1 + 1).toInt ≤ 0 := by rw [← e0]; exact this
              omega
            | cons b' r' =>
              obtain ⟨-, q | q⟩ := a7 b' r' rfl
              · exact ⟨r', by rw [q]⟩
              · omega
          obtain ⟨r2, rfl⟩ := hs'
          obtain ⟨τ1, k1, k2⟩ := acc_cons a2
          obtain ⟨k3, k4⟩ := rdB_eq k1
          unfold psSt at k3
          rw [if_pos a3, psBe_41] at k3
          by_cases hz : τ.1.1 = 0
          · rw [if_pos hz] at k3
            cases k3
          · rw [if_neg hz] at k3
            have k3 := (Option.some.inj k3).symm
            have hdpe : τ.1.1 - 1 = σ.1.1 := by
              rw [a4, h3]
              show σ.1.1 + 1 - 1 = σ.1.1
              exact Int32.toInt_inj.mp (by rw [sub_id (by omega) (by omega), dp1, e1]; omega)
            have hPW : τ1.2 = (σ.2.1 ++ C, σ.2.2) := by
              rw [k4]
              unfold rdPW
              rw [if_pos a3, if_neg (by decide), if_pos rfl, b1, h4]
              rw [fl_all (fun o W' e => by cases e; decide) b2]
              dsimp only
              rw [b3, h4]
              rfl
            have he : eOne ν any (40 :: r) = ((any r).1, r2) := by
              show (if (40 : Int32) = 40 then ((any r).1, (any r).2.tail) else if isDg 40 then eDig (40 - 48) r else (ν 40, r)) = _
              rw [if_pos rfl, a8]
              rfl
            have hw1 : τ1.1.2.2.2.1 = 0 := by rw [k3]; exact a3
            refine ⟨r2, τ1, ⟨⟨40 :: (u ++ [41]), List.cons_ne_nil _ _, by rw [u2]; simp, ?_⟩, k2, hw1, by rw [k3]; exact hdpe, fun k hk => ?_, ⟨[], C, by rw [hPW]; rfl, fun o ho => (by cases ho), by rw [hPW]; simp, fun V => by rw [he]; exact b4 V⟩, nxt_of k2 hw1 (fun b' r' e => ?_)⟩, by rw [he], fun _ => ⟨a9, by rw [a8]; exact List.cons_ne_nil _ _, by rw [a8]; exact ⟨u, u2.symm⟩⟩⟩
            · show (rdB 40 σ).bind (rdS (u ++ [41])) = some τ1
              rw [h1]
              exact rdS_two u3 (rdS_one k1)
            · have q1 := a5 k hk
              have q2 : τ1.1.2.2.1 = τ.1.2.2.1 := by rw [k3]
              rw [q2, q1, h3]
              show (σ.1.2.2.1 &&& (((1 : Int32) <<< ((σ.1.1 + 1) &&& 31)) ^^^ (-1))) &&& bt k = 0 ↔ _
              rw [hbt, c_nn (by omega) (by omega), if_neg (by omega)]
            · subst e
              intro hd'
              obtain ⟨σ2, m1, -⟩ := acc_cons k2
              obtain ⟨m2, -⟩ := rdB_eq m1
              unfold psSt at m2
              rw [if_pos hw1] at m2
              unfold psBe at m2
              rw [if_pos hd', if_pos (Or.inl (by rw [k3]))] at m2
              cases m2
        · rw [if_neg h40] at h3
          cases h3
set_option maxHeartbeats 1000000 in
theorem lvLoop {νi : Int32 → Int32} {L m M : Nat} {ops : Int32 → Bool} {sub : List Int32 → PV} {fsub : List Int32 → Prop} {σ : RSt} {s0 : List Int32} (hL : 0 < L) (hops : ∀ b, ops b = true ↔ sg b = L) (h33 : L ≠ 3) (hctx : ctx L σ.2.2) (hsub : ∀ (b : Int32) (r : List Int32) (τ τ1 : RSt), sg b = L → rdB b τ = some τ1 → τ.1.2.2.2.1 = 0 → τ.1.1 = σ.1.1 → acc r τ1 → r.length ≤ M → τ1.2.2 = b :: σ.2.2 → kb m τ τ1 ∧ τ1.1.1 = σ.1.1 ∧ Lvl νi (L + 1) m sub fsub r τ1) : ∀ (n : Nat) (v : Int32) (s' : List Int32) (τ : RSt), s'.length ≤ n → s'.length ≤ M → Res νi L (L + 1) m v s0 s' σ τ → ∃ s'' τ', Res νi L L m (eLoop ops eApp sub n v s').1 s0 s'' σ τ' ∧ (eLoop ops eApp sub n v s').2 = s'' ∧ fLoop ops sub fsub n s' := by
  have nilc : ∀ (v : Int32) (τ : RSt), Res νi L (L + 1) m v s0 [] σ τ → Res νi L L m v s0 [] σ τ := fun v τ h => ⟨h.1, h.2.1, h.2.2.1, h.2.2.2.1, h.2.2.2.2.1, h.2.2.2.2.2.1, fun b r e => by cases e⟩
  intro n
  induction n with
  | zero =>
    intro v s' τ hn _ h
    cases s' with
    | nil => exact ⟨[], τ, nilc v τ h, rfl, trivial⟩
    | cons b r => simp at hn
  | succ n ihn =>
    intro v s' τ hn hM h
    cases s' with
    | nil => exact ⟨[], τ, nilc v τ h, rfl, trivial⟩
    | cons b r =>
      have heq : eLoop ops eApp sub (n + 1) v (b :: r) = if ops b = true then eLoop ops eApp sub n (eApp b v (sub r).1) (sub r).2 else (v, b :: r) := rfl
      obtain ⟨⟨u, u1, u2, u3⟩, a2, a3, a4, a5, ⟨W2, C, b1, b2, b3, b4⟩, a7⟩ := h
      obtain ⟨nd, nb⟩ := a7 b r rfl
      by_cases ho : ops b = true
      · rw [heq, if_pos ho]
        have hsg := (hops b).mp ho
        obtain ⟨τ1, k1, k2⟩ := acc_cons a2
        obtain ⟨-, k4⟩ := rdB_eq k1
        have hb33 : ¬ b = 33 := fun e => by subst e; exact h33 (by rw [← hsg]; rfl)
        have hPW : τ1.2 = (σ.2.1 ++ C, b :: σ.2.2) := by
          rw [k4]
          unfold rdPW
          rw [if_pos a3, if_neg nd, if_neg (fun e => by subst e; rw [show sg 41 = 0 from rfl] at hsg; omega), hsg, b1, fl_all hctx b2, b3]
        obtain ⟨c1, c2, s2, τ2, ⟨⟨w, w1, w2, w3⟩, d2, d3, d4, d5, ⟨X2, C2, e1, e2, e3, e4⟩, d7⟩, d8, d9⟩ := hsub b r τ τ1 hsg k1 a3 a4 k2 (by simp at hM; omega) (by rw [hPW])
        rw [d8]
        have hlen : s2.length + 1 ≤ r.length := by
          rw [w2, List.length_append]
          have : 0 < w.length := by
            cases w with
            | nil => exact absurd rfl w1
            | cons => simp
          omega
        have hRn : Res νi L (L + 1) m (eApp b v (sub r).1) s0 s2 σ τ2 := by
          refine ⟨⟨u ++ b :: w, by simp, by rw [u2, w2]; simp, ?_⟩, d2, d3, by rw [d4, c2], (a5.trans c1).trans d5, ⟨X2 ++ [b], C ++ (C2 ++ [2000 + b]), ?_, ?_, ?_, fun V => ?_⟩, d7⟩
          · refine rdS_two u3 ?_
            show (rdB b τ).bind (rdS w) = some τ2
            rw [k1]
            exact w3
          · rw [e1, hPW]
            simp
          · intro o hoo
            rcases List.mem_append.mp hoo with q | q
            · have := e2 o q; omega
            · rcases List.mem_cons.mp q with q | q
              · rw [q, hsg]; exact Nat.le_refl _
              · cases q
          · rw [List.map_append, ← List.append_assoc, e3, hPW]
            simp
          · rw [pRun_app, b4, pRun_app, e4]
            exact pOp (by omega) hb33 v (sub r).1 V
        obtain ⟨s3, τ3, f1, f2, f3⟩ := ihn (eApp b v (sub r).1) s2 τ2 (by simp at hn; omega) (by simp at hM; omega) hRn
        exact ⟨s3, τ3, f1, f2, fun _ => ⟨d9, by rw [d8]; exact ⟨w, w2.symm⟩, by rw [d8]; exact f3⟩⟩
      · rw [heq, if_neg ho]
        refine ⟨b :: r, τ, ⟨⟨u, u1, u2, u3⟩, a2, a3, a4, a5, ⟨W2, C, b1, b2, b3, b4⟩, fun b' r' e => ?_⟩, rfl, fun q => absurd q ho⟩
        cases e
        refine ⟨nd, ?_⟩
        rcases nb with q | ⟨q1, q2, q3⟩
        · exact Or.inl q
        · have : sg b ≠ L := fun e => ho ((hops b).mpr e)
          exact Or.inr ⟨q1, by omega, q3⟩
