/-! house: both sides -/
abbrev hNew (H x y : Int32) : mC := .inr (4, [.int H, .int y, .int x, .int 0, .int 0, .int 0, .int 0, .int 0, .int 0, .int 0])
section HS
variable {l : List mC} {s d : Nat}
theorem lst_at {c : mC} : (l ++ [c])[l.length]? = some c := by simp
set_option maxRecDepth 10000 in
set_option maxHeartbeats 1000000 in
theorem r_hInit (a b c : Int32) : mR (d + 1) 16 [.ref l.length, .int a, .int b, .int c] (l ++ [.inr (4, [.int 0, .int 0, .int 0, .int 0, .int 0, .int 0, .int 0, .int 0, .int 0, .int 0])], s) (fun r h' => r = none ∧ h' = (l ++ [.inr (4, [.int a, .int c, .int b, .int 0, .int 0, .int 0, .int 0, .int 0, .int 0, .int 0])], s)) := by
  refine mR_ix [(0, .ref l.length), (1, .int a), (2, .int b), (3, .int c)] rfl rfl rfl ?_
  refine mE_aldn 1 rfl rfl rfl rfl ?_
  refine mE_oi 4 rfl rfl rfl rfl ?_
  refine mE_aldn 5 rfl rfl rfl rfl ?_
  refine mE_ico 6 0 rfl rfl rfl ?_
  refine mE_pf 9 rfl lst_at rfl rfl ?_
  dsimp only
  rw [set_last]
  refine mE_aldn 10 rfl rfl rfl rfl ?_
  refine mE_ico 11 0 rfl rfl rfl ?_
  refine mE_pf 14 rfl lst_at rfl rfl ?_
  dsimp only
  rw [set_last]
  refine mE_aldn 15 rfl rfl rfl rfl ?_
  refine mE_ico 16 0 rfl rfl rfl ?_
  refine mE_pf 19 rfl lst_at rfl rfl ?_
  dsimp only
  rw [set_last]
  refine mE_aldn 20 rfl rfl rfl rfl ?_
  refine mE_ico 21 0 rfl rfl rfl ?_
  refine mE_pf 24 rfl lst_at rfl rfl ?_
  dsimp only
  rw [set_last]
  refine mE_aldn 25 rfl rfl rfl rfl ?_
  refine mE_ico 26 0 rfl rfl rfl ?_
  refine mE_pf 29 rfl lst_at rfl rfl ?_
  dsimp only
  rw [set_last]
  refine mE_aldn 30 rfl rfl rfl rfl ?_
  refine mE_ico 31 0 rfl rfl rfl ?_
  refine mE_pf 34 rfl lst_at rfl rfl ?_
  dsimp only
  rw [set_last]
  refine mE_aldn 35 rfl rfl rfl rfl ?_
  refine mE_ico 36 0 rfl rfl rfl ?_
  refine mE_pf 39 rfl lst_at rfl rfl ?_
  dsimp only
  rw [set_last]
  refine mE_aldn 40 rfl rfl rfl rfl ?_
  refine mE_ildn 41 rfl rfl rfl rfl ?_
  refine mE_pf 44 rfl lst_at rfl rfl ?_
  dsimp only
  rw [set_last]
  refine mE_aldn 45 rfl rfl rfl rfl ?_
  refine mE_ildn 46 rfl rfl rfl rfl ?_
  refine mE_pf 49 rfl lst_at rfl rfl ?_
  dsimp only
  rw [set_last]
  refine mE_aldn 50 rfl rfl rfl rfl ?_
  refine mE_ildn 51 rfl rfl rfl rfl ?_
  refine mE_pf 54 rfl lst_at rfl rfl ?_
  dsimp only
  rw [set_last]
  exact mE_vret rfl ⟨rfl, rfl, rfl⟩
set_option maxRecDepth 10000 in
set_option maxHeartbeats 2000000 in
/-- house of the class -/
theorem q_house {h : mS} {f0 : List Value} {H x y : Int32} {qs : List (Option Nat)} (e0 : h.1[0]? = some (.inr (10, f0))) (fA : f0[0]? = some (.ref 1)) (f10 : f0[10]? = some (.int H)) (hH : 0 ≤ H.toInt ∧ H.toInt ≤ 12) (e1 : h.1[1]? = some (.inl (2, .inr qs))) (lq : qs.length = 12) : mR (d + 2) 58 [.ref 0, .int x, .int y] h (fun _ h' => h' = h ∨ (H.toInt < 12 ∧ h'.1 = ((h.1 ++ [hNew H x y]).set 1 (.inl (2, .inr (qs.set H.toInt.toNat (some h.1.length))))).set 0 (.inr (10, f0.set 10 (.int (H + 1)))))) := by
  have c1 : (1 : Int32).toInt = 1 := by decide
  have c12 : (12 : Int32).toInt = 12 := by decide
  have no : ∀ lv : mL, mE (mcall (d + 1)) none 3 (mgd 74 mtX10_house) 10 (21, lv, [], h) (fun r h' => mretok (some .int) r = true ∧ (h' = h ∨ (H.toInt < 12 ∧ h'.1 = ((h.1 ++ [hNew H x y]).set 1 (.inl (2, .inr (qs.set H.toInt.toNat (some h.1.length))))).set 0 (.inr (10, f0.set 10 (.int (H + 1))))))) := fun lv => by
    refine mE_ico 22 (-1) rfl rfl rfl ?_
    exact mE_iret rfl ⟨rfl, Or.inl rfl⟩
  refine mR_ix [(0, .ref 0), (1, .int x), (2, .int y)] rfl rfl rfl ?_
  refine mE_ildn 1 rfl rfl rfl rfl ?_
  refine mE_ico 2 0 rfl rfl rfl ?_
  refine mE_sip 5 10000 rfl rfl rfl ?_
  refine mE_cs [.int x, .int 0, .int 10000] [] rfl rfl rfl rfl rfl ?_
  obtain ⟨r, hh, k1, rfl, e9⟩ := r_within d x 0 10000 h
  have e9 := e9.symm
  subst e9
  refine ⟨_, _, k1, ?_⟩
  refine mE_if_eq rfl (fun hx => ?_) (fun hx => ?_)
  · exact mE_le (no _) (Nat.le_of_ble_eq_true rfl)
  refine mE_ildn 12 rfl rfl rfl rfl ?_
  refine mE_ico 13 0 rfl rfl rfl ?_
  refine mE_bip 15 9 rfl rfl rfl ?_
  refine mE_cs [.int y, .int 0, .int 9] [] rfl rfl rfl rfl rfl ?_
  obtain ⟨r, hh2, k2, rfl, e9⟩ := r_within d y 0 9 h
  have e9 := e9.symm
  subst e9
  refine ⟨_, _, k2, ?_⟩
  refine mE_if_ne rfl (fun hy => ?_) (fun hy => ?_)
  rotate_left
  · exact mE_le (no _) (Nat.le_of_ble_eq_true rfl)
  refine mE_aldn 24 rfl rfl rfl rfl ?_
  refine mE_gf 27 rfl rfl e0 f10 rfl ?_
  refine mE_bip 29 12 rfl rfl rfl ?_
  refine mE_ic_lt rfl (fun hc => ?_) (fun hc => ?_)
  rotate_left
  · refine mE_bip 34 (-2) rfl rfl rfl ?_
    exact mE_iret rfl ⟨rfl, Or.inl rfl⟩
  have hc := Int32.lt_iff_toInt_lt.mp hc
  rw [c12] at hc
  have l0 : 0 < h.1.length := (List.getElem?_eq_some_iff.mp e0).1
  have l1 : 1 < h.1.length := (List.getElem?_eq_some_iff.mp e1).1
  have l10 : 10 < f0.length := (List.getElem?_eq_some_iff.mp f10).1
  obtain ⟨l, s⟩ := h
  dsimp only at *
  refine mE_aldn 36 rfl rfl rfl rfl ?_
  refine mE_gf 39 rfl rfl e0 fA rfl ?_
  refine mE_aldn 40 rfl rfl rfl rfl ?_
  refine mE_gf 43 rfl rfl e0 f10 rfl ?_
  refine mE_new 46 l.length [.int 0, .int 0, .int 0, .int 0, .int 0, .int 0, .int 0, .int 0, .int 0, .int 0] 10 rfl rfl rfl rfl rfl ?_
  refine mE_dup 47 rfl rfl rfl ?_
  refine mE_aldn 48 rfl rfl rfl rfl ?_
  refine mE_gf 51 rfl rfl (mg_app2 e0) f10 rfl ?_
  refine mE_ildn 52 rfl rfl rfl rfl ?_
  refine mE_ildn 53 rfl rfl rfl rfl ?_
  refine mE_ci [.int H, .int x, .int y] [.ref l.length, .int H, .ref 1] rfl rfl rfl rfl lst_at rfl ?_
  obtain ⟨r, h3, k3, rfl, rfl⟩ := r_hInit (l := l) (s := s + 10) (d := d) H x y
  refine ⟨_, _, k3, ?_⟩
  refine mE_qsa 57 H.toInt.toNat rfl (mg_app2 e1) lst_at rfl rfl (fun q => by
    rcases q with q | q
    · have := Int32.lt_iff_toInt_lt.mp q
      have c0 : (0 : Int32).toInt = 0 := rfl
      omega
    · omega) rfl ?_
  have g0 : ((l ++ [hNew H x y]).set 1 (.inl (2, .inr (qs.set H.toInt.toNat (some l.length)))))[0]? = some (.inr (10, f0)) := (List.getElem?_set_ne (by decide)).trans (mg_app2 e0)
  refine mE_aldn 58 rfl rfl rfl rfl ?_
  refine mE_dup 59 rfl rfl rfl ?_
  refine mE_gf 62 rfl rfl g0 f10 rfl ?_
  refine mE_ico 63 1 rfl rfl rfl ?_
  refine mE_iadd 64 (H + 1) rfl rfl rfl ?_
  refine mE_pf 67 rfl g0 (by show (true && Nat.blt 10 f0.length) = true; rw [Nat.blt_eq.mpr l10]; rfl) rfl ?_
  refine mE_aldn 68 rfl rfl rfl rfl ?_
  refine mE_gf 71 rfl rfl (List.getElem?_set_self (List.getElem?_eq_some_iff.mp g0).1) (List.getElem?_set_self l10) rfl ?_
  refine mE_ico 72 1 rfl rfl rfl ?_
  refine mE_isub 73 (H + 1 - 1) rfl rfl rfl ?_
  exact mE_iret rfl ⟨rfl, Or.inr ⟨hc, rfl⟩⟩
end HS
