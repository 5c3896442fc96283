/-! all levels: what the class compiles is what the reference reads -/
theorem op_be {b : Int32} {τ τ1 : RSt} (h : rdB b τ = some τ1) (hw : τ.1.2.2.2.1 = 0) (hs : 0 < sg b) (h33 : ¬ b = 33) : ¬ isDg b ∧ ¬ b = 41 ∧ psBe b τ.1.1 τ.1.2.1 τ.1.2.2.1 τ.1.2.2.2.1 τ.1.2.2.2.2 = some τ1.1 := by
  obtain ⟨h1, -⟩ := rdB_eq h
  unfold psSt at h1
  rw [if_pos hw] at h1
  refine ⟨?_, ?_, h1⟩
  · rcases sg_cases hs with e | e | e | (e | e | e) | (e | e) | e <;> subst e <;> first | exact absurd rfl h33 | decide
  · rcases sg_cases hs with e | e | e | (e | e | e) | (e | e) | e <;> subst e <;> first | exact absurd rfl h33 | decide
theorem op_ar {b : Int32} {τ τ1 : RSt} (h : rdB b τ = some τ1) (hw : τ.1.2.2.2.1 = 0) (hb : b = 43 ∨ b = 45 ∨ b = 42) : τ1.1 = (τ.1.1, τ.1.2.1, τ.1.2.2.1, 1, 0) := by
  have hs : 0 < sg b ∧ ¬ b = 33 := by rcases hb with e | e | e <;> subst e <;> exact ⟨by decide, by decide⟩
  obtain ⟨h1, h2, h3⟩ := op_be h hw hs.1 hs.2
  unfold psBe at h3
  rw [if_neg h1, if_neg h2, if_neg (by rcases hb with e | e | e <;> subst e <;> decide), if_neg (by rcases hb with e | e | e <;> subst e <;> decide), if_pos hb] at h3
  exact (Option.some.inj h3).symm
theorem op_bo {b : Int32} {τ τ1 : RSt} (h : rdB b τ = some τ1) (hw : τ.1.2.2.2.1 = 0) (hb : isBo b) : τ1.1 = (τ.1.1, τ.1.2.1, τ.1.2.2.1 &&& (((1 : Int32) <<< (τ.1.1 &&& 31)) ^^^ (-1)), 1, 1) := by
  have hs : 0 < sg b ∧ ¬ b = 33 := by rcases hb with e | e <;> subst e <;> exact ⟨by decide, by decide⟩
  obtain ⟨h1, h2, h3⟩ := op_be h hw hs.1 hs.2
  unfold psBe at h3
  rw [if_neg h1, if_neg h2, if_pos hb] at h3
  exact (Option.some.inj h3).symm
theorem op_rl {b : Int32} {τ τ1 : RSt} (h : rdB b τ = some τ1) (hw : τ.1.2.2.2.1 = 0) (hb : isRl b) : τ.1.2.2.1 &&& ((1 : Int32) <<< (τ.1.1 &&& 31)) = 0 ∧ τ1.1 = (τ.1.1, τ.1.2.1, τ.1.2.2.1 ||| ((1 : Int32) <<< (τ.1.1 &&& 31)), 1, 0) := by
  have hs : 0 < sg b ∧ ¬ b = 33 := by rcases hb with e | e | e <;> subst e <;> exact ⟨by decide, by decide⟩
  obtain ⟨h1, h2, h3⟩ := op_be h hw hs.1 hs.2
  unfold psBe at h3
  rw [if_neg h1, if_neg h2, if_neg (rl_ne hb), if_pos hb] at h3
  by_cases hz : τ.1.2.2.1 &&& ((1 : Int32) <<< (τ.1.1 &&& 31)) = 0
  · rw [if_pos hz] at h3
    exact ⟨hz, (Option.some.inj h3).symm⟩
  · rw [if_neg hz] at h3
    cases h3
theorem hd33 {s : List Int32} {τ : RSt} (ha : acc s τ) (hw : ¬ τ.1.2.2.2.1 = 0) (hm : τ.1.2.2.2.2 = 0) : ∀ b r, s = b :: r → ¬ b = 33 := by
  intro b r e h
  subst e
  subst h
  obtain ⟨σ', h1, -⟩ := acc_cons ha
  obtain ⟨h2, -⟩ := rdB_eq h1
  unfold psSt at h2
  rw [if_neg hw] at h2
  unfold psOp at h2
  rw [if_neg (by decide), if_neg (by decide), if_neg (fun q => q.2 hm), if_neg (fun q => absurd q.1 (by decide))] at h2
  cases h2
theorem ctx.mono {L L' : Nat} {W : List Int32} (h : ctx L W) (hL : L ≤ L') : ctx L' W := fun o W' e => Nat.lt_of_lt_of_le (h o W' e) hL
theorem opP_iff (b : Int32) : opP b = true ↔ sg b = 6 := by
  unfold opP
  constructor
  · intro h
    have := eq_of_beq h
    subst this
    rfl
  · intro h
    rcases sg_cases (show 0 < sg b by omega) with e | e | e | (e | e | e) | (e | e) | e <;> subst e <;> first | rfl | exact absurd h (by decide)
theorem opS_iff (b : Int32) : opS b = true ↔ sg b = 5 := by
  unfold opS
  constructor
  · intro h
    rcases Bool.or_eq_true_iff.mp h with h | h
    · have := eq_of_beq h
      subst this
      rfl
    · have := eq_of_beq h
      subst this
      rfl
  · intro h
    rcases sg_cases (show 0 < sg b by omega) with e | e | e | (e | e | e) | (e | e) | e <;> subst e <;> first | rfl | exact absurd h (by decide)
theorem opA_iff (b : Int32) : opA b = true ↔ sg b = 2 := by
  unfold opA
  constructor
  · intro h
    have := eq_of_beq h
    subst this
    rfl
  · intro h
    rcases sg_cases (show 0 < sg b by omega) with e | e | e | (e | e | e) | (e | e) | e <;> subst e <;> first | rfl | exact absurd h (by decide)
theorem opO_iff (b : Int32) : opO b = true ↔ sg b = 1 := by
  unfold opO
  constructor
  · intro h
    have := eq_of_beq h
    subst this
    rfl
  · intro h
    rcases sg_cases (show 0 < sg b by omega) with e | e | e | (e | e | e) | (e | e) | e <;> subst e <;> first | rfl | exact absurd h (by decide)
theorem sgv {b : Int32} : (sg b = 6 → b = 42) ∧ (sg b = 5 → b = 43 ∨ b = 45) ∧ (sg b = 4 → isRl b) ∧ (sg b = 3 → b = 33) ∧ (sg b = 2 → b = 38) ∧ (sg b = 1 → b = 124) := by
  refine ⟨fun h => ?_, fun h => ?_, fun h => ?_, fun h => ?_, fun h => ?_, fun h => ?_⟩
  all_goals rcases sg_cases (show 0 < sg b by omega) with e | e | e | (e | e | e) | (e | e) | e <;> subst e <;> first | exact absurd h (by decide) | rfl | decide
theorem res_suf {νi : Int32 → Int32} {L Ln m : Nat} {v : Int32} {s s' : List Int32} {σ τ : RSt} (h : Res νi L Ln m v s s' σ τ) : s' <:+ s := by
  obtain ⟨⟨u, -, u2, -⟩, -⟩ := h
  exact ⟨u, u2.symm⟩
theorem rest_le {νi : Int32 → Int32} {L Ln m : Nat} {v : Int32} {s s' : List Int32} {σ τ : RSt} (h : Res νi L Ln m v s s' σ τ) : s'.length + 1 ≤ s.length := by
  obtain ⟨⟨u, u1, u2, -⟩, -⟩ := h
  rw [u2, List.length_append]
  have : 0 < u.length := by
    cases u with
    | nil => exact absurd rfl u1
    | cons => simp
  omega
theorem lv6 {νi : Int32 → Int32} {D M : Nat} {one : List Int32 → PV} {fone : List Int32 → Prop} (h7 : OkA νi D M 7 one fone) : OkA νi D M 6 (eProd one) (fProd one fone) := by
  intro s σ hM hdp hw ha h33 hctx
  obtain ⟨s1, τ, hR, he, hfn⟩ := h7 s σ hM hdp hw ha h33 (hctx.mono (by decide))
  have hlen := rest_le hR
  have F := lvLoop (L := 6) (m := D + 1) (M := M) (ops := opP) (sub := one) (fsub := fone) (s0 := s) (by decide) opP_iff (by decide) hctx (fun b r τ τ1 q1 q2 q3 q4 q5 q6 q7 => ?_) s1.length (one s).1 s1 τ (Nat.le_refl _) (by omega) (hR.weak (by decide) (Nat.le_refl _))
  · obtain ⟨s2, τ2, F1, F2, F3⟩ := F
    refine ⟨s2, τ2, ?_, ?_, ⟨hfn, by rw [he]; exact res_suf hR⟩, by rw [he]; exact F3⟩
    · unfold eProd
      rw [he]
      exact F1
    · unfold eProd
      rw [he]
      exact F2
  · have hf := op_ar q2 q3 (Or.inr (Or.inr (sgv.1 q1)))
    have hw1 : ¬ τ1.1.2.2.2.1 = 0 := by rw [hf]; show ¬ (1 : Int32) = 0; decide
    exact ⟨fun k _ => by rw [hf], by rw [hf]; exact q4, h7 r τ1 q6 (by rw [hf]; show τ.1.1.toInt = _; rw [q4]; exact hdp) hw1 q5 (hd33 q5 hw1 (by rw [hf])) (fun o W' e => by rw [q7] at e; cases e; omega)⟩
theorem lv5 {νi : Int32 → Int32} {D M : Nat} {one : List Int32 → PV} {fone : List Int32 → Prop} (h6 : OkA νi D M 6 (eProd one) (fProd one fone)) : OkA νi D M 5 (eSum one) (fSum one fone) := by
  intro s σ hM hdp hw ha h33 hctx
  obtain ⟨s1, τ, hR, he, hfn⟩ := h6 s σ hM hdp hw ha h33 (hctx.mono (by decide))
  have hlen := rest_le hR
  have F := lvLoop (L := 5) (m := D + 1) (M := M) (ops := opS) (sub := eProd one) (fsub := fProd one fone) (s0 := s) (by decide) opS_iff (by decide) hctx (fun b r τ τ1 q1 q2 q3 q4 q5 q6 q7 => ?_) s1.length (eProd one s).1 s1 τ (Nat.le_refl _) (by omega) (hR.weak (by decide) (Nat.le_refl _))
  · obtain ⟨s2, τ2, F1, F2, F3⟩ := F
    refine ⟨s2, τ2, ?_, ?_, ⟨hfn, by rw [he]; exact res_suf hR⟩, by rw [he]; exact F3⟩
    · unfold eSum
      rw [he]
      exact F1
    · unfold eSum
      rw [he]
      exact F2
  · have hf := op_ar q2 q3 (by rcases sgv.2.1 q1 with q | q; exact Or.inl q; exact Or.inr (Or.inl q))
    have hw1 : ¬ τ1.1.2.2.2.1 = 0 := by rw [hf]; show ¬ (1 : Int32) = 0; decide
    exact ⟨fun k _ => by rw [hf], by rw [hf]; exact q4, h6 r τ1 q6 (by rw [hf]; show τ.1.1.toInt = _; rw [q4]; exact hdp) hw1 q5 (hd33 q5 hw1 (by rw [hf])) (fun o W' e => by rw [q7] at e; cases e; omega)⟩
theorem bt_D {x : Int32} {D : Nat} (h : x.toInt = D) (hD : D ≤ 12) : (1 : Int32) <<< (x &&& 31) = bt D := by
  rw [bt_dp (by omega) (by omega)]
  congr 1
  show x.toInt.toNat = D
  omega
/-- a comparison -/
def OkC (νi : Int32 → Int32) (D M L : Nat) (e : List Int32 → PV) (f : List Int32 → Prop) : Prop := ∀ (s : List Int32) (σ : RSt), s.length ≤ M → σ.1.1.toInt = D → ¬ σ.1.2.2.2.1 = 0 → σ.1.2.2.1 &&& bt D = 0 → acc s σ → (∀ b r, s = b :: r → ¬ b = 33) → ctx L σ.2.2 → Lvl νi L D e f s σ
set_option maxHeartbeats 1000000 in
theorem lv4 {νi : Int32 → Int32} {D M : Nat} (hD : D ≤ 12) {one : List Int32 → PV} {fone : List Int32 → Prop} (h5 : OkA νi D M 5 (eSum one) (fSum one fone)) : OkC νi D M 4 (eCmp one) (fCmp one fone) := by
  intro s σ hM hdp hw hbit ha h33 hctx
  obtain ⟨s1, τ, hR, he, hfn⟩ := h5 s σ hM hdp hw ha h33 (hctx.mono (by decide))
  have hlen := rest_le hR
  have hsuf := res_suf hR
  cases s1 with
  | nil =>
    have hc : eCmp one s = ((eSum one s).1, []) := by
      unfold eCmp
      rw [he]
    refine ⟨[], τ, ?_, by rw [hc], ⟨hfn, by rw [he]; exact hsuf⟩, fun b r e => by rw [he] at e; cases e⟩
    rw [hc]
    have := hR.weak (L' := 4) (m' := D) (by decide) (by omega)
    exact ⟨this.1, this.2.1, this.2.2.1, this.2.2.2.1, this.2.2.2.2.1, this.2.2.2.2.2.1, fun b r e => by cases e⟩
  | cons b r =>
    by_cases hb : isRl b
    · have hc : eCmp one s = (eApp b (eSum one s).1 (eSum one r).1, (eSum one r).2) := by
        unfold eCmp
        rw [he]
        show (if isRl b then _ else ((eSum one s).1, b :: r)) = _
        rw [if_pos hb]
      obtain ⟨⟨u, u1, u2, u3⟩, a2, a3, a4, a5, ⟨W2, C, b1, b2, b3, b4⟩, a7⟩ := hR
      obtain ⟨nd, nb⟩ := a7 b r rfl
      have hsg : sg b = 4 := by rcases hb with e | e | e <;> subst e <;> rfl
      have hb33 : ¬ b = 33 := by rcases hb with e | e | e <;> subst e <;> decide
      have hb41 : ¬ b = 41 := by rcases hb with e | e | e <;> subst e <;> decide
      obtain ⟨τ1, k1, k2⟩ := acc_cons a2
      obtain ⟨-, k4⟩ := rdB_eq k1
      obtain ⟨z0, hf⟩ := op_rl k1 a3 hb
      have hdt : τ.1.1.toInt = D := by rw [a4]; exact hdp
      have hBD := bt_D hdt hD
      have hPW : τ1.2 = (σ.2.1 ++ C, b :: σ.2.2) := by
        rw [k4]
        unfold rdPW
        rw [if_pos a3, if_neg nd, if_neg hb41, hsg, b1, fl_all hctx (fun o ho => by have := b2 o ho; omega), b3]
      have hw1 : ¬ τ1.1.2.2.2.1 = 0 := by rw [hf]; show ¬ (1 : Int32) = 0; decide
      obtain ⟨s2, τ2, hR2, he2, hfn2⟩ := h5 r τ1 (by simp at hlen; omega) (by rw [hf]; exact hdt) hw1 k2 (hd33 k2 hw1 (by rw [hf])) (fun o W' e => by rw [hPW] at e; cases e; omega)
      have hsuf2 := res_suf hR2
      obtain ⟨⟨w, w1, w2, w3⟩, d2, d3, d4, d5, ⟨X2, C2, e1, e2, e3, e4⟩, d7⟩ := hR2
      have hset : ¬ τ2.1.2.2.1 &&& bt D = 0 := by
        rw [d5 D (by omega), hf]
        show ¬ (τ.1.2.2.1 ||| ((1 : Int32) <<< (τ.1.1 &&& 31))) &&& bt D = 0
        rw [hBD, c_or (by omega) (by omega)]
        exact fun q => q.1 rfl
      refine ⟨s2, τ2, ?_, by rw [hc]; exact he2, ⟨hfn, by rw [he]; exact hsuf⟩, fun b' r' e _ => by rw [he] at e; cases e; exact ⟨hfn2, by rw [he2]; exact hsuf2⟩⟩
      rw [hc]
      refine ⟨⟨u ++ b :: w, by simp, by rw [u2, w2]; simp, ?_⟩, d2, d3, by rw [d4, hf]; exact a4, fun k hk => ?_, ⟨X2 ++ [b], C ++ (C2 ++ [2000 + b]), ?_, ?_, ?_, fun V => ?_⟩, fun b' r' e => ?_⟩
      · refine rdS_two u3 ?_
        show (rdB b τ).bind (rdS w) = some τ2
        rw [k1]
        exact w3
      · rw [d5 k (by omega), hf]
        show (τ.1.2.2.1 ||| ((1 : Int32) <<< (τ.1.1 &&& 31))) &&& bt k = 0 ↔ _
        rw [hBD, c_or (by omega) (by omega), ← a5 k (by omega)]
        exact ⟨fun q => q.2, fun q => ⟨by omega, q⟩⟩
      · rw [e1, hPW]
        simp
      · intro o hoo
        rcases List.mem_append.mp hoo with q | q
        · have := e2 o q; omega
        · rcases List.mem_cons.mp q with q | q
          · rw [q, hsg]; exact Nat.le_refl _
          · cases q
      · rw [List.map_append, ← List.append_assoc, e3, hPW]
        simp
      · rw [pRun_app, b4, pRun_app, e4]
        exact pOp (by omega) hb33 (eSum one s).1 (eSum one r).1 V
      · obtain ⟨v1, v2⟩ := d7 b' r' e
        refine ⟨v1, ?_⟩
        rcases v2 with q | ⟨q1, q2, q3⟩
        · exact Or.inl q
        · refine Or.inr ⟨q1, ?_, q3⟩
          rcases Nat.lt_or_ge (sg b') 4 with q | q
          · exact q
          · exfalso
            subst e
            have hrl := sgv.2.2.1 (show sg b' = 4 by omega)
            obtain ⟨τ3, m1, -⟩ := acc_cons d2
            obtain ⟨m2, -⟩ := op_rl m1 d3 hrl
            have hdt2 : τ2.1.1.toInt = D := by rw [d4, hf]; exact hdt
            rw [bt_D hdt2 hD] at m2
            exact hset m2
    · have hc : eCmp one s = ((eSum one s).1, b :: r) := by
        unfold eCmp
        rw [he]
        show (if isRl b then (eApp b (eSum one s).1 (eSum one r).1, (eSum one r).2) else ((eSum one s).1, b :: r)) = _
        rw [if_neg hb]
      refine ⟨b :: r, τ, ?_, by rw [hc], ⟨hfn, by rw [he]; exact hsuf⟩, fun b' r' e z => by rw [he] at e; cases e; exact absurd z hb⟩
      rw [hc]
      have h := hR.weak (L' := 4) (m' := D) (by decide) (by omega)
      refine ⟨h.1, h.2.1, h.2.2.1, h.2.2.2.1, h.2.2.2.2.1, h.2.2.2.2.2.1, fun b' r' e => ?_⟩
      obtain ⟨v1, v2⟩ := h.2.2.2.2.2.2 b' r' e
      refine ⟨v1, ?_⟩
      rcases v2 with q | ⟨q1, q2, q3⟩
      · exact Or.inl q
      · refine Or.inr ⟨q1, ?_, q3⟩
        rcases Nat.lt_or_ge (sg b') 4 with q | q
        · exact q
        · cases e
          exact absurd (sgv.2.2.1 (show sg b = 4 by omega)) hb
theorem lvBang : ∀ (s : List Int32) (σ : RSt), ¬ σ.1.2.2.2.1 = 0 → ¬ σ.1.2.2.2.2 = 0 → acc s σ → ∃ u τ, s = u ++ (eBang s).2 ∧ rdS u σ = some τ ∧ acc (eBang s).2 τ ∧ τ.1 = σ.1 ∧ τ.2 = (σ.2.1, List.replicate (eBang s).1 33 ++ σ.2.2) ∧ ∀ b r, (eBang s).2 = b :: r → ¬ b = 33 := by
  intro s
  induction s with
  | nil => intro σ _ _ ha; exact ⟨[], σ, rfl, rfl, ha, rfl, rfl, fun b r e => by cases e⟩
  | cons b r ih =>
    intro σ hw hm ha
    by_cases hb : b = 33
    · subst hb
      have hB : eBang (33 :: r) = ((eBang r).1 + 1, (eBang r).2) := by
        show (if (33 : Int32) = 33 then ((eBang r).1 + 1, (eBang r).2) else (0, 33 :: r)) = _
        rw [if_pos rfl]
      obtain ⟨σ1, h1, h2⟩ := acc_cons ha
      obtain ⟨h3, h4⟩ := rdB_eq h1
      unfold psSt at h3
      rw [if_neg hw, psOp_33 hm] at h3
      have h3 : σ1.1 = σ.1 := (Option.some.inj h3).symm
      have hPW : σ1.2 = (σ.2.1, 33 :: σ.2.2) := by
        rw [h4]
        unfold rdPW
        rw [if_neg hw, if_neg (by decide), if_neg (by decide)]
      obtain ⟨u, τ, g1, g2, g3, g4, g5, g6⟩ := ih σ1 (by rw [h3]; exact hw) (by rw [h3]; exact hm) h2
      rw [hB]
      refine ⟨33 :: u, τ, by rw [List.cons_append, ← g1], ?_, g3, by rw [g4, h3], ?_, g6⟩
      · show (rdB 33 σ).bind (rdS u) = some τ
        rw [h1]
        exact g2
      · rw [g5, hPW]
        dsimp only
        rw [List.replicate_succ', List.append_assoc]
        rfl
    · have hB : eBang (b :: r) = (0, b :: r) := by
        show (if b = 33 then ((eBang r).1 + 1, (eBang r).2) else (0, b :: r)) = _
        rw [if_neg hb]
      rw [hB]
      exact ⟨[], σ, rfl, rfl, ha, rfl, rfl, fun b' r' e => by cases e; exact hb⟩
theorem pNots {νi : Int32 → Int32} : ∀ (k : Nat) (v : Int32) (V : List Int32), pRun νi (List.replicate k 2033) (v :: V) = eNots k v :: V := by
  intro k
  induction k with
  | zero => intro v V; rfl
  | succ k ih =>
    intro v V
    rw [List.replicate_succ', pRun_app, ih]
    show pStp νi 2033 (eNots k v :: V) = eNeg (eNots k v) :: V
    unfold pStp
    rw [if_neg (by decide), if_pos rfl]
set_option maxHeartbeats 1000000 in
theorem lv3 {νi : Int32 → Int32} {D M : Nat} {one : List Int32 → PV} {fone : List Int32 → Prop} (h4 : OkC νi D M 4 (eCmp one) (fCmp one fone)) : OkB νi D M 3 (eNot one) (fNot one fone) := by
  intro s σ hM hdp hw hm hbit ha hctx
  obtain ⟨u, τ, g1, g2, g3, g4, g5, g6⟩ := lvBang s σ hw hm ha
  have hl : (eBang s).2.length ≤ s.length := by
    have := congrArg List.length g1
    rw [List.length_append] at this
    omega
  obtain ⟨s2, τ2, hR, he, hfn⟩ := h4 (eBang s).2 τ (by omega) (by rw [g4]; exact hdp) (by rw [g4]; exact hw) (by rw [g4]; exact hbit) g3 g6 (by
    rw [g5]
    dsimp only
    intro o W' e
    cases hk : (eBang s).1 with
    | zero =>
      rw [hk] at e
      have := hctx o W' e
      omega
    | succ k =>
      rw [hk] at e
      cases e
      decide)
  have hsuf := res_suf hR
  obtain ⟨⟨w, w1, w2, w3⟩, d2, d3, d4, d5, ⟨X2, C2, e1, e2, e3, e4⟩, d7⟩ := hR
  refine ⟨s2, τ2, ⟨⟨u ++ w, by simp [w1], by rw [List.append_assoc, ← w2]; exact g1, rdS_two g2 w3⟩, d2, d3, by rw [d4, g4], fun k hk => by rw [d5 k hk, g4], ⟨X2 ++ List.replicate (eBang s).1 33, C2 ++ List.replicate (eBang s).1 2033, ?_, ?_, ?_, fun V => ?_⟩, fun b' r' e => ?_⟩, he, hfn, by rw [he]; exact hsuf⟩
  · rw [e1, g5]
    simp
  · intro o ho
    rcases List.mem_append.mp ho with q | q
    · have := e2 o q; omega
    · rw [(List.mem_replicate.mp q).2]
      decide
  · rw [List.map_append, ← List.append_assoc, e3, g5, List.map_replicate]
    simp
  · rw [pRun_app, e4]
    exact pNots _ _ _
  · obtain ⟨v1, v2⟩ := d7 b' r' e
    refine ⟨v1, ?_⟩
    rcases v2 with q | ⟨q1, q2, q3⟩
    · exact Or.inl q
    · refine Or.inr ⟨q1, ?_, q3⟩
      rcases Nat.lt_or_ge (sg b') 3 with q | q
      · exact q
      · exact absurd (sgv.2.2.2.1 (show sg b' = 3 by omega)) q3
theorem lv2 {νi : Int32 → Int32} {D M : Nat} (hD : D ≤ 12) {one : List Int32 → PV} {fone : List Int32 → Prop} (h3 : OkB νi D M 3 (eNot one) (fNot one fone)) : OkB νi D M 2 (eAll one) (fAll one fone) := by
  intro s σ hM hdp hw hm hbit ha hctx
  obtain ⟨s1, τ, hR, he, hfn⟩ := h3 s σ hM hdp hw hm hbit ha (hctx.mono (by decide))
  have hlen := rest_le hR
  have F := lvLoop (L := 2) (m := D) (M := M) (ops := opA) (sub := eNot one) (fsub := fNot one fone) (s0 := s) (by decide) opA_iff (by decide) hctx (fun b r τ τ1 q1 q2 q3 q4 q5 q6 q7 => ?_) s1.length (eNot one s).1 s1 τ (Nat.le_refl _) (by omega) (hR.weak (by decide) (Nat.le_refl _))
  · obtain ⟨s2, τ2, F1, F2, F3⟩ := F
    refine ⟨s2, τ2, ?_, ?_, ⟨hfn, by rw [he]; exact res_suf hR⟩, by rw [he]; exact F3⟩
    · unfold eAll
      rw [he]
      exact F1
    · unfold eAll
      rw [he]
      exact F2
  · have hf := op_bo q2 q3 (Or.inl (sgv.2.2.2.2.1 q1))
    have hdt : τ.1.1.toInt = D := by rw [q4]; exact hdp
    have hBD := bt_D hdt hD
    refine ⟨fun k hk => ?_, by rw [hf]; exact q4, h3 r τ1 q6 (by rw [hf]; exact hdt) (by rw [hf]; show ¬ (1 : Int32) = 0; decide) (by rw [hf]; show ¬ (1 : Int32) = 0; decide) ?_ q5 (fun o W' e => by rw [q7] at e; cases e; omega)⟩
    · rw [hf]
      show (τ.1.2.2.1 &&& (((1 : Int32) <<< (τ.1.1 &&& 31)) ^^^ (-1))) &&& bt k = 0 ↔ _
      rw [hBD, c_nn (by omega) (by omega), if_neg (by omega)]
    · rw [hf]
      show (τ.1.2.2.1 &&& (((1 : Int32) <<< (τ.1.1 &&& 31)) ^^^ (-1))) &&& bt D = 0
      rw [hBD, c_nn (by omega) (by omega), if_pos rfl]
theorem lv1 {νi : Int32 → Int32} {D M : Nat} (hD : D ≤ 12) {one : List Int32 → PV} {fone : List Int32 → Prop} (h2 : OkB νi D M 2 (eAll one) (fAll one fone)) : OkB νi D M 1 (eAny one) (fAny one fone) := by
  intro s σ hM hdp hw hm hbit ha hctx
  obtain ⟨s1, τ, hR, he, hfn⟩ := h2 s σ hM hdp hw hm hbit ha (hctx.mono (by decide))
  have hlen := rest_le hR
  have F := lvLoop (L := 1) (m := D) (M := M) (ops := opO) (sub := eAll one) (fsub := fAll one fone) (s0 := s) (by decide) opO_iff (by decide) hctx (fun b r τ τ1 q1 q2 q3 q4 q5 q6 q7 => ?_) s1.length (eAll one s).1 s1 τ (Nat.le_refl _) (by omega) (hR.weak (by decide) (Nat.le_refl _))
  · obtain ⟨s2, τ2, F1, F2, F3⟩ := F
    refine ⟨s2, τ2, ?_, ?_, ⟨hfn, by rw [he]; exact res_suf hR⟩, by rw [he]; exact F3⟩
    · unfold eAny
      rw [he]
      exact F1
    · unfold eAny
      rw [he]
      exact F2
  · have hf := op_bo q2 q3 (Or.inr (sgv.2.2.2.2.2 q1))
    have hdt : τ.1.1.toInt = D := by rw [q4]; exact hdp
    have hBD := bt_D hdt hD
    refine ⟨fun k hk => ?_, by rw [hf]; exact q4, h2 r τ1 q6 (by rw [hf]; exact hdt) (by rw [hf]; show ¬ (1 : Int32) = 0; decide) (by rw [hf]; show ¬ (1 : Int32) = 0; decide) ?_ q5 (fun o W' e => by rw [q7] at e; cases e; omega)⟩
    · rw [hf]
      show (τ.1.2.2.1 &&& (((1 : Int32) <<< (τ.1.1 &&& 31)) ^^^ (-1))) &&& bt k = 0 ↔ _
      rw [hBD, c_nn (by omega) (by omega), if_neg (by omega)]
    · rw [hf]
      show (τ.1.2.2.1 &&& (((1 : Int32) <<< (τ.1.1 &&& 31)) ^^^ (-1))) &&& bt D = 0
      rw [hBD, c_nn (by omega) (by omega), if_pos rfl]
theorem lvAt {ν νi : Int32 → Int32} (hν : ∀ b, ¬ midx b < 0 → νi (midx b) = ν b) : ∀ (d D M : Nat), D ≤ 12 → 13 ≤ D + d → OkB νi D M 1 (eAt ν d) (fAt ν d) := by
  intro d
  induction d with
  | zero => intro D M h1 h2; omega
  | succ d ih =>
    intro D M h1 h2
    exact lv1 h1 (lv2 h1 (lv3 (lv4 h1 (lv5 (lv6 (lv7 hν h1 (fun h => ih (D + 1) (M - 1) h (by omega))))))))
/-- a text without a fault: its steps give what recursive descent gives -/
theorem compiled {ν νi : Int32 → Int32} (hν : ∀ b, ¬ midx b < 0 → νi (midx b) = ν b) {s : List Int32} (ha : acc s ((0, 0, 0, 1, 1), [], [])) : ∃ τ : RSt, rdS s ((0, 0, 0, 1, 1), [], []) = some τ ∧ (flsh 1 τ.2.1 τ.2.2).2 = [] ∧ pRun νi (flsh 1 τ.2.1 τ.2.2).1 [] = [(eAt ν 13 s).1] ∧ (eAt ν 13 s).2 = [] ∧ fAt ν 13 s := by
  obtain ⟨s', τ, ⟨⟨u, u1, u2, u3⟩, a2, a3, a4, a5, ⟨W2, C, b1, b2, b3, b4⟩, a7⟩, a8, a9⟩ := lvAt hν 13 0 s.length (by decide) (by decide) s ((0, 0, 0, 1, 1), [], []) (Nat.le_refl _) (by decide) (by decide) (by decide) (by decide) ha (fun o W' e => by cases e)
  have hs' : s' = [] := by
    cases s' with
    | nil => rfl
    | cons b r =>
      exfalso
      obtain ⟨-, q | q⟩ := a7 b r rfl
      · subst q
        obtain ⟨τ1, k1, -⟩ := acc_cons a2
        obtain ⟨k3, -⟩ := rdB_eq k1
        unfold psSt at k3
        rw [if_pos a3, psBe_41, if_pos (by rw [a4])] at k3
        cases k3
      · omega
  subst hs'
  rw [List.append_nil] at u2
  subst u2
  have hfl : flsh 1 τ.2.1 τ.2.2 = (C, []) := by
    rw [b1, fl_all (fun o W' e => by cases e) b2, b3]
    rfl
  refine ⟨τ, u3, by rw [hfl], ?_, a8, a9⟩
  rw [hfl]
  exact b4 []
