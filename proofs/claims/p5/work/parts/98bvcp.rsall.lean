/-! the Reader's steps of a whole text -/
theorem fl_len {L : Nat} : ∀ {W P : List Int32}, (flsh L P W).1.length + (flsh L P W).2.length = P.length + W.length := by
  intro W
  induction W with
  | nil => intro P; rfl
  | cons o W ih =>
    intro P
    by_cases q : L ≤ sg o
    · have e : flsh L P (o :: W) = flsh L (P ++ [2000 + o]) W := by show (if L ≤ sg o then _ else _) = _; rw [if_pos q]
      rw [e, ih]
      simp only [List.length_append, List.length_cons, List.length_nil]
      omega
    · have e : flsh L P (o :: W) = (P, o :: W) := by show (if L ≤ sg o then _ else _) = _; rw [if_neg q]
      rw [e]
theorem rd_len {b : Int32} {s : PS} {P W : List Int32} : (rdPW b s P W).1.length + (rdPW b s P W).2.length ≤ P.length + W.length + 1 := by
  unfold rdPW
  split
  · split
    · have : (setLast P (fun x => 10 * x + (b - 48))).length = P.length := by
        rcases List.eq_nil_or_concat P with rfl | ⟨P', p, rfl⟩
        · rfl
        · unfold setLast
          rw [List.concat_eq_append, List.getLast?_concat, List.dropLast_concat]
          simp
      dsimp only
      omega
    · split
      · have := fl_len (L := 1) (W := W) (P := P)
        dsimp only
        rw [List.length_tail]
        omega
      · have := fl_len (L := sg b) (W := W) (P := P)
        dsimp only
        rw [List.length_cons]
        omega
  · split
    · simp only [List.length_append, List.length_cons, List.length_nil]; omega
    · split
      · simp only [List.length_append, List.length_cons, List.length_nil]; omega
      · simp only [List.length_cons]; omega
section RSQ
variable {l : List mC} {s0 kd d : Nat} {sz : Int32}
theorem s_byte (hk : kdOk l kd) {h : mS} {ps : PS} {P W : List Int32} (hR : RS l s0 kd sz ps P W h) (hW : P.length + W.length < 60) {b : Int32} (b0 : 0 ≤ b.toInt) (b1 : b.toInt ≤ 255) {σ' : RSt} (hp : rdB b (ps, P, W) = some σ') : mR (d + 6) (if ps.2.2.2.1 = 0 then 25 else 24) [.ref 8, .int b] h (fun r h' => r = some (.int 1) ∧ RS l s0 kd sz σ'.1 σ'.2.1 σ'.2.2 h') := by
  obtain ⟨dp, dg, c, wt, mn⟩ := ps
  unfold rdB at hp
  cases hs : psSt b (dp, dg, c, wt, mn) with
  | none => rw [hs] at hp; cases hp
  | some ps' =>
    rw [hs] at hp
    cases hp
    unfold psSt at hs
    dsimp only at hs ⊢
    unfold rdPW
    dsimp only
    by_cases hw : wt = 0
    · rw [if_pos hw] at hs ⊢
      rw [if_pos hw]
      exact s_behd hk hR hW hs
    · rw [if_neg hw] at hs ⊢
      rw [if_neg hw]
      exact s_opnd hk hR hW b0 b1 hs
set_option maxRecDepth 10000 in
set_option maxHeartbeats 1000000 in
theorem s_begin (hk : kdOk l kd) {w dp dg c wt mn ct : Int32} {xs ys : List Int32} (e8 : l[8]? = some (.inr (5, [.ref 9, .int w, .int dp, .int dg, .int c, .int wt, .int mn, .ref kd]))) (e9 : l[9]? = some (cAr xs)) (ek : l[kd]? = some (.inr (9, [.ref (kd + 1), .ref (kd + 2), .int sz, .int ct]))) (es : l[kd + 2]? = some (cAr ys)) (l9 : xs.length = 60) (ls : ys.length = 60) : mR (d + 1) 23 [.ref 8] (l, s0) (fun r h' => r = none ∧ RS l s0 kd sz (0, 0, 0, 1, 1) [] [] h') := by
  have e0 : (l, s0) = rH5 l s0 kd (.inr (5, [.ref 9, .int w, .int dp, .int dg, .int c, .int wt, .int mn, .ref kd])) (cAr xs) (.inr (9, [.ref (kd + 1), .ref (kd + 2), .int sz, .int ct])) (cAr ys) := by
    unfold rH5
    rw [set_selfC e8, set_selfC e9, set_selfC ek, set_selfC es]
  rw [e0]
  refine mR_ix [(0, .ref 8)] rfl rfl rfl ?_
  refine mE_aldn 1 rfl rfl rfl rfl ?_
  refine mE_gf 4 rfl rfl (rH5_8 hk) rfl rfl ?_
  refine mE_ico 5 0 rfl rfl rfl ?_
  refine mE_pf 8 rfl (rH5_k hk) rfl rfl ?_
  rw [rH5_ks hk]
  refine mE_aldn 9 rfl rfl rfl rfl ?_
  refine mE_ico 10 0 rfl rfl rfl ?_
  refine mE_pf 13 rfl (rH5_8 hk) rfl rfl ?_
  rw [rH5_8s hk]
  refine mE_aldn 14 rfl rfl rfl rfl ?_
  refine mE_ico 15 0 rfl rfl rfl ?_
  refine mE_pf 18 rfl (rH5_8 hk) rfl rfl ?_
  rw [rH5_8s hk]
  refine mE_aldn 19 rfl rfl rfl rfl ?_
  refine mE_ico 20 0 rfl rfl rfl ?_
  refine mE_pf 23 rfl (rH5_8 hk) rfl rfl ?_
  rw [rH5_8s hk]
  refine mE_aldn 24 rfl rfl rfl rfl ?_
  refine mE_ico 25 0 rfl rfl rfl ?_
  refine mE_pf 28 rfl (rH5_8 hk) rfl rfl ?_
  rw [rH5_8s hk]
  refine mE_aldn 29 rfl rfl rfl rfl ?_
  refine mE_ico 30 1 rfl rfl rfl ?_
  refine mE_pf 33 rfl (rH5_8 hk) rfl rfl ?_
  rw [rH5_8s hk]
  refine mE_aldn 34 rfl rfl rfl rfl ?_
  refine mE_ico 35 1 rfl rfl rfl ?_
  refine mE_pf 38 rfl (rH5_8 hk) rfl rfl ?_
  rw [rH5_8s hk]
  exact mE_vret rfl ⟨rfl, rfl, ys, xs, by rw [ls]; rfl, by rw [l9]; rfl, rfl⟩
/-- what a good reading leaves -/
def RDone (l : List mC) (kd : Nat) (n : Int32) (P : List Int32) (h' : mS) : Prop := (∃ R : List Int32, P.length + R.length = 60 ∧ h'.1[kd]? = some (.inr (9, [.ref (kd + 1), .ref (kd + 2), .int n, .int (Int32.ofNat P.length)])) ∧ h'.1[kd + 2]? = some (cAr (P ++ R))) ∧ ∀ j : Nat, j ≠ 8 → j ≠ 9 → j ≠ kd → j ≠ kd + 1 → j ≠ kd + 2 → h'.1[j]? = l[j]?
set_option maxRecDepth 10000 in
set_option maxHeartbeats 2000000 in
theorem s_read (hk : kdOk l kd) {w dp dg c wt mn ct n : Int32} {xs ys bs zs : List Int32} (e8 : l[8]? = some (.inr (5, [.ref 9, .int w, .int dp, .int dg, .int c, .int wt, .int mn, .ref kd]))) (e9 : l[9]? = some (cAr xs)) (ek : l[kd]? = some (.inr (9, [.ref (kd + 1), .ref (kd + 2), .int sz, .int ct]))) (es : l[kd + 2]? = some (cAr ys)) (ez : l[kd + 1]? = some (cAr zs)) (l9 : xs.length = 60) (ls : ys.length = 60) (lz : zs.length = 60) (e6 : l[6]? = some (.inr (8, [.ref 7, .int n]))) (e7 : l[7]? = some (cAr bs)) (ht : tpOk n bs) {τ : RSt} (hτ : rdS (bs.take n.toNatClampNeg) ((0, 0, 0, 1, 1), [], []) = some τ) (hw : τ.1.2.2.2.1 = 0) (hd : τ.1.1 ≤ 0) : mR (d + 8) 22 [.ref 8, .ref 6] (l, s0) (fun r h' => r = some (.int (-1)) ∧ RDone l kd n (flsh 1 τ.2.1 τ.2.2).1 h') := by
  have k6 : ∀ {c8 c9 ck cs : mC}, (rH5 l s0 kd c8 c9 ck cs).1[6]? = some (.inr (8, [.ref 7, .int n])) := (rH5_o (by decide) (by decide) (by have := hk.1; omega) (by have := hk.1; omega)).trans e6
  have k7 : ∀ {c8 c9 ck cs : mC}, (rH5 l s0 kd c8 c9 ck cs).1[7]? = some (cAr bs) := (rH5_o (by decide) (by decide) (by have := hk.1; omega) (by have := hk.1; omega)).trans e7
  have k1 : ∀ {c8 c9 ck cs : mC}, (rH5 l s0 kd c8 c9 ck cs).1[kd + 1]? = some (cAr zs) := (rH5_o (by have := hk.1; omega) (by have := hk.1; omega) (by omega) (by omega)).trans ez
  have c1 : (Int32.ofInt 1).toInt = 1 := by decide
  have key : ∀ (ts : List Int32) (K : Nat) (k : Int32) (h : mS) (lv : mL) (ps : PS) (P W : List Int32), k.toInt = K → (bs.take n.toNatClampNeg).drop K = ts → (K : Int) ≤ n.toInt → RS l s0 kd sz ps P W h → P.length + W.length ≤ K → rdS ts (ps, P, W) = some τ → (lv = [(2, .int k), (0, .ref 8), (1, .ref 6)] ∨ ∃ x y : Int32, lv = [(2, .int k), (4, .int x), (3, .int y), (0, .ref 8), (1, .ref 6)]) → mE (mcall (d + 7)) none 5 (mgd 90 mtX5_read) (40 * ts.length + 40) (6, lv, [], h) (fun r h' => mretok (some .int) r = true ∧ r = some (.int (-1)) ∧ RDone l kd n (flsh 1 τ.2.1 τ.2.2).1 h') := by
    intro ts
    induction ts with
    | nil =>
      intro K k h lv ps P W hk0 hts hKn hR hle hrd hlv
      cases hrd
      have hnK := tp_nil ht hts
      have n60 := ht.2.1
      have fin : ∀ lv : mL, mget lv 0 = some (.ref 8) → mget lv 1 = some (.ref 6) → mE (mcall (d + 7)) none 5 (mgd 90 mtX5_read) 30 (56, lv, [], h) (fun r h' => mretok (some .int) r = true ∧ r = some (.int (-1)) ∧ RDone l kd n (flsh 1 P W).1 h') := by
        intro lv g0 g1
        obtain ⟨R1, R2, e1, e2, rfl⟩ := id hR
        refine mE_aldn 57 rfl g0 rfl rfl ?_
        refine mE_gf 60 rfl rfl (rH5_8 hk) rfl rfl ?_
        refine mE_if_ne_f 63 rfl (fun q => q hw) rfl ?_
        refine mE_aldn 64 rfl g0 rfl rfl ?_
        refine mE_gf 67 rfl rfl (rH5_8 hk) rfl rfl ?_
        refine mE_if_le_t 75 rfl hd rfl ?_
        refine mE_aldn 76 rfl g0 rfl rfl ?_
        refine mE_ico 77 1 rfl rfl rfl ?_
        refine mE_cv [.int 1] [] rfl rfl rfl rfl (rH5_8 hk) rfl ?_
        obtain ⟨r, hA, kA, rfl, hRA⟩ := s_writeWaiting (d := d + 5) hk (L := 1) (Ln := 1) (by decide) (by decide) W P _ hR (by omega)
        refine ⟨_, _, kA, ?_⟩
        obtain ⟨R3, R4, e3, e4, rfl⟩ := id hRA
        refine mE_aldn 81 rfl g0 rfl rfl ?_
        refine mE_gf 84 rfl rfl (rH5_8 hk) rfl rfl ?_
        refine mE_aldn 85 rfl g1 rfl rfl ?_
        refine mE_cv [.ref 6] [] rfl rfl rfl rfl (rH5_k hk) rfl ?_
        obtain ⟨r, hB, kB, rfl, eB⟩ := r_copy (d := d + 6) (rH5_k (s0 := s0) (c8 := cRd ps (flsh 1 P W).2.length kd) (c9 := cAr ((flsh 1 P W).2.reverse ++ R4)) (ck := cTx kd sz (flsh 1 P W).1.length) (cs := cAr ((flsh 1 P W).1 ++ R3)) hk) k6 k7 k1 (by have := hk.1; omega) (by have := hk.1; omega) (by omega) (by have := hk.1; omega) ht.2.2.1 lz ht.1 ht.2.1
        refine ⟨_, _, kB, ?_⟩
        refine mE_ico 89 (-1) rfl rfl rfl ?_
        subst eB
        refine mE_iret rfl ⟨rfl, rfl, ⟨R3, e3, ?_, ?_⟩, fun j j1 j2 j3 j4 j5 => ?_⟩
        · exact (List.getElem?_set_ne (by omega)).trans (List.getElem?_set_self (List.getElem?_eq_some_iff.mp (rH5_k hk)).1)
        · exact (List.getElem?_set_ne (by omega)).trans ((List.getElem?_set_ne (by omega)).trans (rH5_s hk))
        · exact (List.getElem?_set_ne (by omega)).trans ((List.getElem?_set_ne (by omega)).trans (rH5_o j1 j2 j3 j5))
      obtain ⟨R1, R2, e1, e2, eh⟩ := id hR
      rw [eh] at fin ⊢
      rcases hlv with rfl | ⟨x, y, rfl⟩
      all_goals
        refine mE_ildn 7 rfl rfl rfl rfl ?_
        refine mE_aldn 8 rfl rfl rfl rfl ?_
        refine mE_gf 11 rfl rfl k6 rfl rfl ?_
        refine mE_ic_ge_t 56 rfl (Int32.le_iff_toInt_le.mpr (by omega)) rfl ?_
        exact mE_le (fin _ rfl rfl) (Nat.le_of_ble_eq_true rfl)
    | cons b ts ih =>
      intro K k h lv ps P W hk0 hts hKn hR hle hrd hlv
      obtain ⟨t1, t2, t3, t4, t5⟩ := tp_cons ht hts
      have n60 := ht.2.1
      have hrd : (rdB b (ps, P, W)).bind (rdS ts) = some τ := hrd
      cases hb : rdB b (ps, P, W) with
      | none => rw [hb] at hrd; cases hrd
      | some σ' =>
        rw [hb] at hrd
        have hrd : rdS ts σ' = some τ := hrd
        have hσ : σ'.2 = rdPW b ps P W := by
          unfold rdB at hb
          cases hs : psSt b ps with
          | none => rw [hs] at hb; cases hb
          | some s' => rw [hs] at hb; cases hb; rfl
        have hlen := rd_len (b := b) (s := ps) (P := P) (W := W)
        rw [← hσ] at hlen
        rw [show 40 * (b :: ts).length + 40 = (40 * ts.length + 40) + 40 by simp only [List.length_cons]; omega]
        have hkk : k + Int32.ofInt 1 = k + 1 := rfl
        have hk1 : (k + Int32.ofInt 1).toInt = ((K + 1 : Nat) : Int) := by rw [add_id (by omega) (by omega), c1]; omega
        have nx : ∀ (hB : mS) (lv3 : mL), (lv3 = [(3, .int b), (2, .int k), (0, .ref 8), (1, .ref 6)] ∨ ∃ x : Int32, lv3 = [(3, .int b), (2, .int k), (4, .int x), (0, .ref 8), (1, .ref 6)]) → RS l s0 kd sz σ'.1 σ'.2.1 σ'.2.2 hB → mE (mcall (d + 7)) none 5 (mgd 90 mtX5_read) ((40 * ts.length + 40) + 10) (41, lv3, [.int 1], hB) (fun r h' => mretok (some .int) r = true ∧ r = some (.int (-1)) ∧ RDone l kd n (flsh 1 τ.2.1 τ.2.2).1 h') := by
          intro hB lv3 hlv3 hRB
          rcases hlv3 with rfl | ⟨x3, rfl⟩
          all_goals
            refine mE_ist 43 [(4, .int 1), (3, .int b), (2, .int k), (0, .ref 8), (1, .ref 6)] rfl rfl rfl rfl ?_
            refine mE_ild 45 rfl rfl rfl rfl ?_
            refine mE_if_ne_t 50 rfl (by decide) rfl ?_
            refine mE_iinc 53 _ [(2, .int (k + Int32.ofInt 1)), (4, .int 1), (3, .int b), (0, .ref 8), (1, .ref 6)] rfl rfl rfl rfl rfl rfl ?_
            refine mE_goto 6 rfl rfl ?_
            exact mE_le (ih (K + 1) _ hB _ σ'.1 σ'.2.1 σ'.2.2 hk1 t3 (by omega) hRB (by omega) hrd (Or.inr ⟨1, b, rfl⟩)) (by omega)
        have hbyte := s_byte (d := d + 1) hk hR (by omega) t4 t5 hb
        have body : ∀ lv3 : mL, (lv3 = [(3, .int b), (2, .int k), (0, .ref 8), (1, .ref 6)] ∨ ∃ x : Int32, lv3 = [(3, .int b), (2, .int k), (4, .int x), (0, .ref 8), (1, .ref 6)]) → mE (mcall (d + 7)) none 5 (mgd 90 mtX5_read) ((40 * ts.length + 40) + 25) (21, lv3, [], h) (fun r h' => mretok (some .int) r = true ∧ r = some (.int (-1)) ∧ RDone l kd n (flsh 1 τ.2.1 τ.2.2).1 h') := by
          intro lv3 hlv3
          have v0 : mget lv3 0 = some (.ref 8) := by rcases hlv3 with rfl | ⟨x3, rfl⟩ <;> rfl
          have v3 : mget lv3 3 = some (.int b) := by rcases hlv3 with rfl | ⟨x3, rfl⟩ <;> rfl
          obtain ⟨R1, R2, e1, e2, eh⟩ := id hR
          have g8 : h.1[8]? = some (cRd ps W.length kd) := by rw [eh]; exact rH5_8 hk
          refine mE_aldn 22 rfl v0 rfl rfl ?_
          refine mE_gf 25 rfl rfl g8 rfl rfl ?_
          by_cases hw0 : ps.2.2.2.1 = 0
          · rw [if_pos hw0] at hbyte
            refine mE_if_eq_t 36 rfl hw0 rfl ?_
            refine mE_aldn 37 rfl v0 rfl rfl ?_
            refine mE_ildn 38 rfl v3 rfl rfl ?_
            refine mE_cv [.int b] [] rfl rfl rfl rfl g8 rfl ?_
            obtain ⟨r, hB, kB, rfl, hRB⟩ := hbyte
            refine ⟨_, _, kB, ?_⟩
            exact mE_le (nx hB lv3 hlv3 hRB) (by omega)
          · rw [if_neg hw0] at hbyte
            refine mE_if_eq_f 28 rfl hw0 rfl ?_
            refine mE_aldn 29 rfl v0 rfl rfl ?_
            refine mE_ildn 30 rfl v3 rfl rfl ?_
            refine mE_cv [.int b] [] rfl rfl rfl rfl g8 rfl ?_
            obtain ⟨r, hB, kB, rfl, hRB⟩ := hbyte
            refine ⟨_, _, kB, ?_⟩
            refine mE_goto 41 rfl rfl ?_
            exact mE_le (nx hB lv3 hlv3 hRB) (by omega)
        obtain ⟨R1, R2, e1, e2, eh⟩ := id hR
        have g6 : h.1[6]? = some (.inr (8, [.ref 7, .int n])) := by rw [eh]; exact k6
        have g7 : h.1[7]? = some (cAr bs) := by rw [eh]; exact k7
        rcases hlv with rfl | ⟨x, y, rfl⟩
        all_goals
          refine mE_ildn 7 rfl rfl rfl rfl ?_
          refine mE_aldn 8 rfl rfl rfl rfl ?_
          refine mE_gf 11 rfl rfl g6 rfl rfl ?_
          refine mE_ic_ge_f 14 rfl (fun q => by have := Int32.le_iff_toInt_le.mp q; omega) rfl ?_
          refine mE_aldn 15 rfl rfl rfl rfl ?_
          refine mE_gf 18 rfl rfl g6 rfl rfl ?_
          refine mE_ildn 19 rfl rfl rfl rfl ?_
          refine mE_ila 20 rfl g7 (nn_of hk0) (by rw [nc_of hk0]; exact t2) rfl ?_
        · refine mE_istn 21 [(3, .int b), (2, .int k), (0, .ref 8), (1, .ref 6)] rfl rfl rfl rfl ?_
          exact mE_le (body _ (Or.inl rfl)) (by omega)
        · refine mE_istn 21 [(3, .int b), (2, .int k), (4, .int x), (0, .ref 8), (1, .ref 6)] rfl rfl rfl rfl ?_
          exact mE_le (body _ (Or.inr ⟨x, rfl⟩)) (by omega)
  refine mR_ix [(0, .ref 8), (1, .ref 6)] rfl rfl rfl ?_
  refine mE_aldn 1 rfl rfl rfl rfl ?_
  refine mE_cv [] [] rfl rfl rfl rfl e8 rfl ?_
  obtain ⟨r, hA, kA, rfl, hRA⟩ := s_begin (d := d + 6) (s0 := s0) hk e8 e9 ek es l9 ls
  refine ⟨_, _, kA, ?_⟩
  refine mE_ico 5 0 rfl rfl rfl ?_
  refine mE_istn 6 [(2, .int 0), (0, .ref 8), (1, .ref 6)] rfl rfl rfl rfl ?_
  have hl60 : (bs.take n.toNatClampNeg).length ≤ 60 := by rw [List.length_take]; have := ht.2.2.1; omega
  exact mE_le (key _ 0 0 hA _ _ [] [] (by decide) rfl ht.1 hRA (by decide) hτ (Or.inl rfl)) (Nat.le_trans (show 40 * (bs.take n.toNatClampNeg).length + 40 ≤ 2440 by omega) (Nat.le_of_ble_eq_true rfl))
end RSQ
