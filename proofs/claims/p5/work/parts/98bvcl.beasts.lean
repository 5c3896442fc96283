/-! the call beasts, on both sides -/
set_option maxRecDepth 10000 in
theorem r_isHouse {d : Nat} {h : mS} {f0 : List Value} {H x : Int32} (e0 : h.1[0]? = some (.inr (10, f0))) (f10 : f0[10]? = some (.int H)) (hH : 0 ≤ H.toInt ∧ H.toInt ≤ 12) : mR (d + 2) 83 [.ref 0, .int x] h (fun r h' => r = some (.int (if 0 ≤ x.toInt ∧ x.toInt < H.toInt then 1 else 0)) ∧ h' = h) := by
  have c0 : (0 : Int32).toInt = 0 := by decide
  have c1 : (1 : Int32).toInt = 1 := by decide
  have hs : (H - 1).toInt = H.toInt - 1 := by rw [sub_id (by omega) (by omega), c1]
  refine mR_ix [(0, .ref 0), (1, .int x)] rfl rfl rfl ?_
  refine mE_ildn 1 rfl rfl rfl rfl ?_
  refine mE_ico 2 0 rfl rfl rfl ?_
  refine mE_aldn 3 rfl rfl rfl rfl ?_
  refine mE_gf 6 rfl rfl e0 f10 rfl ?_
  refine mE_ico 7 1 rfl rfl rfl ?_
  refine mE_isub 8 (H - 1) rfl rfl rfl ?_
  refine mE_cs [.int x, .int 0, .int (H - 1)] [] rfl rfl rfl rfl rfl ?_
  obtain ⟨r, hh, k1, rfl, e9⟩ := r_within d x 0 (H - 1) h
  have e9 := e9.symm
  subst e9
  refine ⟨_, _, k1, ?_⟩
  have : (0 ≤ x ∧ x ≤ H - 1) ↔ (0 ≤ x.toInt ∧ x.toInt < H.toInt) := by
    rw [Int32.le_iff_toInt_le, Int32.le_iff_toInt_le, c0, hs]
    omega
  by_cases q : 0 ≤ x.toInt ∧ x.toInt < H.toInt
  · rw [if_pos q, if_pos (this.mpr q)]
    exact mE_iret rfl ⟨rfl, rfl, rfl⟩
  · rw [if_neg q, if_neg (fun z => q (this.mp z))]
    exact mE_iret rfl ⟨rfl, rfl, rfl⟩
set_option maxRecDepth 10000 in
theorem r_MisHouse {d : Nat} {h : mS} {f0 : List Value} {H x : Int32} (e0 : h.1[47]? = some (.inr (11, f0))) (f10 : f0[9]? = some (.int H)) : mR (d + 1) 106 [.ref 47, .int x] h (fun r h' => r = some (.int (if 0 ≤ x.toInt ∧ x.toInt < H.toInt then 1 else 0)) ∧ h' = h) := by
  have c0 : (0 : Int32).toInt = 0 := by decide
  refine mR_ix [(0, .ref 47), (1, .int x)] rfl rfl rfl ?_
  refine mE_ildn 1 rfl rfl rfl rfl ?_
  by_cases q1 : x < 0
  · refine mE_if_lt_t 16 rfl q1 rfl ?_
    refine mE_ico 17 0 rfl rfl rfl ?_
    have := Int32.lt_iff_toInt_lt.mp q1
    exact mE_iret rfl ⟨rfl, by rw [if_neg (by omega)], rfl⟩
  · have q1' := Int32.le_iff_toInt_le.mp (Int32.not_lt.mp q1)
    refine mE_if_lt_f 4 rfl q1 rfl ?_
    refine mE_ildn 5 rfl rfl rfl rfl ?_
    refine mE_aldn 6 rfl rfl rfl rfl ?_
    refine mE_gf 9 rfl rfl e0 f10 rfl ?_
    by_cases q2 : H ≤ x
    · refine mE_ic_ge_t 16 rfl q2 rfl ?_
      refine mE_ico 17 0 rfl rfl rfl ?_
      have := Int32.le_iff_toInt_le.mp q2
      exact mE_iret rfl ⟨rfl, by rw [if_neg (by omega)], rfl⟩
    · refine mE_ic_ge_f 12 rfl q2 rfl ?_
      refine mE_ico 13 1 rfl rfl rfl ?_
      refine mE_goto 17 rfl rfl ?_
      have := Int32.lt_iff_toInt_lt.mp (Int32.not_le.mp q2)
      exact mE_iret rfl ⟨rfl, by rw [if_pos (by omega)], rfl⟩
def okB (H x y : Int32) : Prop := (0 ≤ x.toInt ∧ x.toInt < H.toInt) ∧ 0 ≤ y ∧ y ≤ 9
set_option maxRecDepth 10000 in
set_option maxHeartbeats 2000000 in
/-- beasts of the class: the house is k's, its beasts are b, law 1 gives v -/
theorem q_beasts {d : Nat} {h : mS} {f0 : List Value} {H x y : Int32} (e0 : h.1[0]? = some (.inr (10, f0))) (f10 : f0[10]? = some (.int H)) (hH : 0 ≤ H.toInt ∧ H.toInt ≤ 12) {qs : List (Option Nat)} (fA : f0[0]? = some (.ref 1)) (e1 : h.1[1]? = some (.inl (2, .inr qs))) {k : Nat} {hf : List Value} {b v : Int32} (hk : okB H x y → qs[x.toNatClampNeg]? = some (some k) ∧ h.1[k]? = some (.inr (4, hf)) ∧ (hf[3]? = some (.int b) ∧ hf.length = 10 ∧ k ≠ 14 ∧ k ≠ 15) ∧ mR (d + 3) 95 [.ref 0, .int 1, .ref k, .null] h (fun r h' => r = some (.int v) ∧ ∃ nm' vs', h' = ((h.1.set 14 nm').set 15 vs', h.2))) : mR (d + 4) 61 [.ref 0, .int x, .int y] h (fun r h' => (¬ okB H x y → r = some (.int (-1)) ∧ h' = h) ∧ (okB H x y → (b < y ∧ v < y → r = some (.int (-5)) ∧ ∀ j : Nat, j ≠ 14 → j ≠ 15 → h'.1[j]? = h.1[j]?) ∧ (¬ (b < y ∧ v < y) → r = some (.int b) ∧ (∀ j : Nat, j ≠ 14 → j ≠ 15 → j ≠ k → h'.1[j]? = h.1[j]?) ∧ h'.1[k]? = some (.inr (4, hf.set 3 (.int y)))))) := by
  refine mR_ix [(0, .ref 0), (1, .int x), (2, .int y)] rfl rfl rfl ?_
  refine mE_aldn 1 rfl rfl rfl rfl ?_
  refine mE_ildn 2 rfl rfl rfl rfl ?_
  refine mE_cv [.int x] [] rfl rfl rfl rfl e0 rfl ?_
  obtain ⟨r, hh, k1, rfl, e9⟩ := r_isHouse (d := d + 1) (x := x) e0 f10 hH
  have e9 := e9.symm
  subst e9
  refine ⟨_, _, k1, ?_⟩
  have nul : ∀ lv : mL, ¬ okB H x y → mE (mcall (d + 3)) none 5 (mgd 61 mtX10_beasts) 10 (18, lv, [], h) (fun r h' => mretok (some .int) r = true ∧ ((¬ okB H x y → r = some (.int (-1)) ∧ h' = h) ∧ (okB H x y → (b < y ∧ v < y → r = some (.int (-5)) ∧ ∀ j : Nat, j ≠ 14 → j ≠ 15 → h'.1[j]? = h.1[j]?) ∧ (¬ (b < y ∧ v < y) → r = some (.int b) ∧ (∀ j : Nat, j ≠ 14 → j ≠ 15 → j ≠ k → h'.1[j]? = h.1[j]?) ∧ h'.1[k]? = some (.inr (4, hf.set 3 (.int y))))))) := fun lv hn => by
    refine mE_ico 19 (-1) rfl rfl rfl ?_
    exact mE_iret rfl ⟨rfl, fun _ => ⟨rfl, rfl⟩, fun q => absurd q hn⟩
  by_cases q1 : 0 ≤ x.toInt ∧ x.toInt < H.toInt
  rotate_left
  · rw [if_neg q1]
    refine mE_if_eq_t 18 rfl rfl rfl ?_
    exact mE_le (nul _ (fun q => q1 q.1)) (Nat.le_of_ble_eq_true rfl)
  rw [if_pos q1]
  refine mE_if_eq_f 8 rfl (by decide) rfl ?_
  refine mE_ildn 9 rfl rfl rfl rfl ?_
  refine mE_ico 10 0 rfl rfl rfl ?_
  refine mE_bip 12 9 rfl rfl rfl ?_
  refine mE_cs [.int y, .int 0, .int 9] [] rfl rfl rfl rfl rfl ?_
  obtain ⟨r, hh, k2, rfl, e9⟩ := r_within (d + 2) y 0 9 h
  have e9 := e9.symm
  subst e9
  refine ⟨_, _, k2, ?_⟩
  by_cases q2 : 0 ≤ y ∧ y ≤ 9
  rotate_left
  · rw [if_neg q2]
    refine mE_if_ne_f 18 rfl (fun q => q rfl) rfl ?_
    exact mE_le (nul _ (fun q => q2 q.2)) (Nat.le_of_ble_eq_true rfl)
  rw [if_pos q2]
  have hok : okB H x y := ⟨q1, q2⟩
  obtain ⟨hq, hc, ⟨h3, l10, k14, k15⟩, hval⟩ := hk hok
  refine mE_if_ne_t 20 rfl (by decide) rfl ?_
  refine mE_aldn 21 rfl rfl rfl rfl ?_
  refine mE_gf 24 rfl rfl e0 fA rfl ?_
  refine mE_ildn 25 rfl rfl rfl rfl ?_
  refine mE_qla 26 rfl e1 rfl (fun q => by have := Int32.lt_iff_toInt_lt.mp q; have c0 : (0 : Int32).toInt = 0 := rfl; omega) hq rfl ?_
  refine mE_astn 27 [(3, .ref k), (0, .ref 0), (1, .int x), (2, .int y)] rfl rfl rfl rfl ?_
  refine mE_aldn 28 rfl rfl rfl rfl ?_
  refine mE_gf 31 rfl rfl hc h3 rfl ?_
  refine mE_ist 33 [(4, .int b), (3, .ref k), (0, .ref 0), (1, .int x), (2, .int y)] rfl rfl rfl rfl ?_
  have wr : ∀ hB : mS, (∀ j : Nat, j ≠ 14 → j ≠ 15 → hB.1[j]? = h.1[j]?) → ¬ (b < y ∧ v < y) → mE (mcall (d + 3)) none 5 (mgd 61 mtX10_beasts) 10 (53, [(4, .int b), (3, .ref k), (0, .ref 0), (1, .int x), (2, .int y)], [], hB) (fun r h' => mretok (some .int) r = true ∧ ((¬ okB H x y → r = some (.int (-1)) ∧ h' = h) ∧ (okB H x y → (b < y ∧ v < y → r = some (.int (-5)) ∧ ∀ j : Nat, j ≠ 14 → j ≠ 15 → h'.1[j]? = h.1[j]?) ∧ (¬ (b < y ∧ v < y) → r = some (.int b) ∧ (∀ j : Nat, j ≠ 14 → j ≠ 15 → j ≠ k → h'.1[j]? = h.1[j]?) ∧ h'.1[k]? = some (.inr (4, hf.set 3 (.int y))))))) := fun hB hoth hn => by
    have hcB : hB.1[k]? = some (.inr (4, hf)) := (hoth k k14 k15).trans hc
    refine mE_aldn 54 rfl rfl rfl rfl ?_
    refine mE_ildn 55 rfl rfl rfl rfl ?_
    refine mE_pf 58 rfl hcB (by rw [l10]; rfl) rfl ?_
    refine mE_ild 60 rfl rfl rfl rfl ?_
    refine mE_iret rfl ⟨rfl, fun q => absurd hok q, fun _ => ⟨fun q => absurd q hn, fun _ => ⟨rfl, fun j j1 j2 j3 => ?_, ?_⟩⟩⟩
    · exact (List.getElem?_set_ne (fun e => j3 e.symm)).trans (hoth j j1 j2)
    · exact List.getElem?_set_self (List.getElem?_eq_some_iff.mp hcB).1
  refine mE_ildn 34 rfl rfl rfl rfl ?_
  refine mE_ild 36 rfl rfl rfl rfl ?_
  by_cases q3 : y ≤ b
  · refine mE_ic_le_t 53 rfl q3 rfl ?_
    exact mE_le (wr h (fun _ _ _ => rfl) (fun q => absurd q.1 (Int32.not_lt.mpr q3))) (Nat.le_of_ble_eq_true rfl)
  refine mE_ic_le_f 39 rfl q3 rfl ?_
  refine mE_ildn 40 rfl rfl rfl rfl ?_
  refine mE_aldn 41 rfl rfl rfl rfl ?_
  refine mE_ico 42 1 rfl rfl rfl ?_
  refine mE_aldn 43 rfl rfl rfl rfl ?_
  refine mE_anull 44 rfl rfl ?_
  refine mE_cv [.int 1, .ref k, .null] [.int y] rfl rfl rfl rfl e0 rfl ?_
  obtain ⟨r, hB, k3, rfl, n', v', rfl⟩ := hval
  refine ⟨_, _, k3, ?_⟩
  have hoth : ∀ j : Nat, j ≠ 14 → j ≠ 15 → ((h.1.set 14 n').set 15 v')[j]? = h.1[j]? := fun j j1 j2 => (List.getElem?_set_ne (fun e => j2 e.symm)).trans (List.getElem?_set_ne (fun e => j1 e.symm))
  by_cases q4 : y ≤ v
  · refine mE_ic_le_t 53 rfl q4 rfl ?_
    exact mE_le (wr _ hoth (fun q => absurd q.2 (Int32.not_lt.mpr q4))) (Nat.le_of_ble_eq_true rfl)
  refine mE_ic_le_f 50 rfl q4 rfl ?_
  refine mE_bip 52 (-5) rfl rfl rfl ?_
  exact mE_iret rfl ⟨rfl, fun q => absurd hok q, fun _ => ⟨fun _ => ⟨rfl, hoth⟩, fun q => absurd ⟨Int32.not_le.mp q3, Int32.not_le.mp q4⟩ q⟩⟩
set_option maxRecDepth 10000 in
set_option maxHeartbeats 2000000 in
/-- beasts of the reference -/
theorem q_Mbeasts {d : Nat} {h : mS} {f0 : List Value} {H x y : Int32} (e0 : h.1[47]? = some (.inr (11, f0))) (f9 : f0[9]? = some (.int H)) (f4 : f0[4]? = some (.ref 51)) {BL : List Int32} (e51 : h.1[51]? = some (.inl (0, .inl BL))) {b v : Int32} (hk : okB H x y → BL[x.toNatClampNeg]? = some b ∧ mR (d + 3) 121 [.ref 47, .int 1, .int x, .int (-1)] h (fun r h' => r = some (.int v) ∧ h'.1[51]? = some (.inl (0, .inl BL)) ∧ ∃ fs', h'.1[47]? = some (.inr (11, fs')) ∧ fs'[4]? = some (.ref 51))) : mR (d + 4) 131 [.ref 47, .int x, .int y] h (fun r h' => (¬ okB H x y → r = some (.int (-1)) ∧ h' = h) ∧ (okB H x y → (b < y ∧ v < y → r = some (.int (-5)) ∧ h'.1[51]? = some (.inl (0, .inl BL))) ∧ (¬ (b < y ∧ v < y) → r = some (.int b) ∧ h'.1[51]? = some (.inl (0, .inl (BL.set x.toNatClampNeg y)))))) := by
  refine mR_ix [(0, .ref 47), (1, .int x), (2, .int y)] rfl rfl rfl ?_
  refine mE_aldn 1 rfl rfl rfl rfl ?_
  refine mE_ildn 2 rfl rfl rfl rfl ?_
  refine mE_cv [.int x] [] rfl rfl rfl rfl e0 rfl ?_
  obtain ⟨r, hh, k1, rfl, e9⟩ := r_MisHouse (d := d + 2) (x := x) e0 f9
  have e9 := e9.symm
  subst e9
  refine ⟨_, _, k1, ?_⟩
  have nul : ∀ lv : mL, ¬ okB H x y → mE (mcall (d + 3)) none 4 (mgd 60 mtX11_beasts) 10 (18, lv, [], h) (fun r h' => mretok (some .int) r = true ∧ ((¬ okB H x y → r = some (.int (-1)) ∧ h' = h) ∧ (okB H x y → (b < y ∧ v < y → r = some (.int (-5)) ∧ h'.1[51]? = some (.inl (0, .inl BL))) ∧ (¬ (b < y ∧ v < y) → r = some (.int b) ∧ h'.1[51]? = some (.inl (0, .inl (BL.set x.toNatClampNeg y))))))) := fun lv hn => by
    refine mE_ico 19 (-1) rfl rfl rfl ?_
    exact mE_iret rfl ⟨rfl, fun _ => ⟨rfl, rfl⟩, fun q => absurd q hn⟩
  by_cases q1 : 0 ≤ x.toInt ∧ x.toInt < H.toInt
  rotate_left
  · rw [if_neg q1]
    refine mE_if_eq_t 18 rfl rfl rfl ?_
    exact mE_le (nul _ (fun q => q1 q.1)) (Nat.le_of_ble_eq_true rfl)
  rw [if_pos q1]
  refine mE_if_eq_f 8 rfl (by decide) rfl ?_
  refine mE_ildn 9 rfl rfl rfl rfl ?_
  refine mE_ico 10 0 rfl rfl rfl ?_
  refine mE_bip 12 9 rfl rfl rfl ?_
  refine mE_cs [.int y, .int 0, .int 9] [] rfl rfl rfl rfl rfl ?_
  obtain ⟨r, hh, k2, rfl, e9⟩ := r_Mwithin (d + 2) y 0 9 h
  have e9 := e9.symm
  subst e9
  refine ⟨_, _, k2, ?_⟩
  by_cases q2 : 0 ≤ y ∧ y ≤ 9
  rotate_left
  · rw [if_neg q2]
    refine mE_if_ne_f 18 rfl (fun q => q rfl) rfl ?_
    exact mE_le (nul _ (fun q => q2 q.2)) (Nat.le_of_ble_eq_true rfl)
  rw [if_pos q2]
  have hok : okB H x y := ⟨q1, q2⟩
  obtain ⟨hb, hval⟩ := hk hok
  have hx0 : ¬ x < 0 := fun q => by have := Int32.lt_iff_toInt_lt.mp q; have c0 : (0 : Int32).toInt = 0 := rfl; omega
  refine mE_if_ne_t 20 rfl (by decide) rfl ?_
  have wr : ∀ (hB : mS) (fB : List Value), hB.1[47]? = some (.inr (11, fB)) → fB[4]? = some (.ref 51) → hB.1[51]? = some (.inl (0, .inl BL)) → ¬ (b < y ∧ v < y) → mE (mcall (d + 3)) none 4 (mgd 60 mtX11_beasts) 14 (44, [(0, .ref 47), (1, .int x), (2, .int y)], [], hB) (fun r h' => mretok (some .int) r = true ∧ ((¬ okB H x y → r = some (.int (-1)) ∧ h' = h) ∧ (okB H x y → (b < y ∧ v < y → r = some (.int (-5)) ∧ h'.1[51]? = some (.inl (0, .inl BL))) ∧ (¬ (b < y ∧ v < y) → r = some (.int b) ∧ h'.1[51]? = some (.inl (0, .inl (BL.set x.toNatClampNeg y))))))) := fun hB fB g1 g2 g3 hn => by
    refine mE_aldn 45 rfl rfl rfl rfl ?_
    refine mE_gf 48 rfl rfl g1 g2 rfl ?_
    refine mE_ildn 49 rfl rfl rfl rfl ?_
    refine mE_ila 50 rfl g3 hx0 hb rfl ?_
    refine mE_istn 51 [(3, .int b), (0, .ref 47), (1, .int x), (2, .int y)] rfl rfl rfl rfl ?_
    refine mE_aldn 52 rfl rfl rfl rfl ?_
    refine mE_gf 55 rfl rfl g1 g2 rfl ?_
    refine mE_ildn 56 rfl rfl rfl rfl ?_
    refine mE_ildn 57 rfl rfl rfl rfl ?_
    refine mE_isa 58 x.toNatClampNeg rfl g3 rfl (fun q => by
      rcases q with q | q
      · exact hx0 q
      · have := (List.getElem?_eq_some_iff.mp hb).1; omega) rfl ?_
    refine mE_ildn 59 rfl rfl rfl rfl ?_
    exact mE_iret rfl ⟨rfl, fun q => absurd hok q, fun _ => ⟨fun q => absurd q hn, fun _ => ⟨rfl, List.getElem?_set_self (List.getElem?_eq_some_iff.mp g3).1⟩⟩⟩
  refine mE_ildn 21 rfl rfl rfl rfl ?_
  refine mE_aldn 22 rfl rfl rfl rfl ?_
  refine mE_gf 25 rfl rfl e0 f4 rfl ?_
  refine mE_ildn 26 rfl rfl rfl rfl ?_
  refine mE_ila 27 rfl e51 hx0 hb rfl ?_
  by_cases q3 : y ≤ b
  · refine mE_ic_le_t 44 rfl q3 rfl ?_
    exact mE_le (wr h f0 e0 f4 e51 (fun q => absurd q.1 (Int32.not_lt.mpr q3))) (Nat.le_of_ble_eq_true rfl)
  refine mE_ic_le_f 30 rfl q3 rfl ?_
  refine mE_ildn 31 rfl rfl rfl rfl ?_
  refine mE_aldn 32 rfl rfl rfl rfl ?_
  refine mE_ico 33 1 rfl rfl rfl ?_
  refine mE_ildn 34 rfl rfl rfl rfl ?_
  refine mE_ico 35 (-1) rfl rfl rfl ?_
  refine mE_cv [.int 1, .int x, .int (-1)] [.int y] rfl rfl rfl rfl e0 rfl ?_
  obtain ⟨r, hB, k3, rfl, g3, fB, g1, g2⟩ := hval
  refine ⟨_, _, k3, ?_⟩
  by_cases q4 : y ≤ v
  · refine mE_ic_le_t 44 rfl q4 rfl ?_
    exact mE_le (wr hB fB g1 g2 g3 (fun q => absurd q.2 (Int32.not_lt.mpr q4))) (Nat.le_of_ble_eq_true rfl)
  refine mE_ic_le_f 41 rfl q4 rfl ?_
  refine mE_bip 43 (-5) rfl rfl rfl ?_
  exact mE_iret rfl ⟨rfl, fun q => absurd hok q, fun _ => ⟨fun _ => ⟨rfl, g3⟩, fun q => absurd ⟨Int32.not_le.mp q3, Int32.not_le.mp q4⟩ q⟩⟩
