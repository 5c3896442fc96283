/-! valueOf of the class, of law 1, without a strip -/
def nmL (w b n k : Int32) : List Int32 := [w - w / 20 * 20, w / 20, 0, 0, 0, 0, 0, b, n, k]
theorem len10 {xs : List Int32} (h : xs.length = 10) : ∃ a0 a1 a2 a3 a4 a5 a6 a7 a8 a9 : Int32, xs = [a0, a1, a2, a3, a4, a5, a6, a7, a8, a9] := by
  match xs, h with
  | [a0, a1, a2, a3, a4, a5, a6, a7, a8, a9], _ => exact ⟨a0, a1, a2, a3, a4, a5, a6, a7, a8, a9, rfl⟩
theorem ib {i : Int32} {xs : List Int32} {j n : Nat} (h : xs.length = n) (h1 : (decide (i < 0) || Nat.ble n j) = false) : ¬ (i < 0 ∨ xs.length ≤ j) := fun q => by
  rw [Bool.or_eq_false_iff] at h1
  rcases q with q | q
  · rw [decide_eq_true q] at h1
    cases h1.1
  · rw [h] at q
    rw [Nat.ble_eq_true_of_le q] at h1
    cases h1.2
/-- what valueOf finds for law 1 -/
def vlC (l : List mC) (k t : Nat) (f0 hf : List Value) (w b n u : Int32) : Prop := (l[0]? = some (.inr (10, f0)) ∧ f0[4]? = some (.ref 5) ∧ f0[7]? = some (.ref 13) ∧ f0[12]? = some (.int w)) ∧ (l[k]? = some (.inr (4, hf)) ∧ hf[3]? = some (.int b) ∧ hf[7]? = some (.int n) ∧ hf[0]? = some (.int u)) ∧ (l[5]? = some (.inl (5, .inr [some 26, some 33, some 40])) ∧ ∃ y wt fr, l[33]? = some (lwC t y wt fr)) ∧ k ≠ 14
set_option maxRecDepth 10000 in
set_option maxHeartbeats 4000000 in
theorem r_valueOf {d : Nat} {h : mS} {k t : Nat} {f0 hf : List Value} {w b n u : Int32} (hv : vlC h.1 k t f0 hf w b n u) {nm vs st : List Int32} {sz ct : Int32} (hc : rkC h.1 t nm st sz ct) (e15 : h.1[15]? = some (.inl (0, .inl vs))) (lv : vs.length = 60) {P : List Int32} (hP : ct.toInt = P.length) (hS : st.take P.length = P) {v : Int32} (hrun : pRun (nuC (nmL w b n u)) P [] = [v]) : mR (d + 3) 95 [.ref 0, .int 1, .ref k, .null] h (fun r h' => r = some (.int v) ∧ ∃ nm' vs', h' = ((h.1.set 14 nm').set 15 vs', h.2)) := by
  obtain ⟨⟨c0, f4, f7, f12⟩, ⟨ck, h3, h7, h0⟩, ⟨c5, y, wt, fr, c33⟩, hk14⟩ := hv
  obtain ⟨⟨c13, c14, c15⟩, ⟨cT, cS, ht⟩, ln, ls⟩ := hc
  obtain ⟨a0, a1, a2, a3, a4, a5, a6, a7, a8, a9, rfl⟩ := len10 ln
  have l14 : 14 < h.1.length := by omega
  obtain ⟨l, s0⟩ := h
  dsimp only at *
  have hN : ∀ xs : List Int32, l[14]? = some (.inl (0, .inl xs)) → (l, s0) = ((l.set 14 (.inl (0, .inl xs))), s0) := fun xs e => by rw [set_selfC e]
  let hn : List Int32 → mS := fun xs => (l.set 14 (.inl (0, .inl xs)), s0)
  have n0 : ∀ xs, (hn xs).1[0]? = some (.inr (10, f0)) := fun xs => (List.getElem?_set_ne (by decide)).trans c0
  have nk : ∀ xs, (hn xs).1[k]? = some (.inr (4, hf)) := fun xs => (List.getElem?_set_ne (by omega)).trans ck
  have n5 : ∀ xs, (hn xs).1[5]? = some (.inl (5, .inr [some 26, some 33, some 40])) := fun xs => (List.getElem?_set_ne (by decide)).trans c5
  have n33 : ∀ xs, (hn xs).1[33]? = some (lwC t y wt fr) := fun xs => (List.getElem?_set_ne (by decide)).trans c33
  have n13 : ∀ xs, (hn xs).1[13]? = some (.inr (6, [.ref 14, .ref 15])) := fun xs => (List.getElem?_set_ne (by decide)).trans c13
  have n14 : ∀ xs, (hn xs).1[14]? = some (.inl (0, .inl xs)) := fun xs => List.getElem?_set_self l14
  have ss : ∀ xs ys, ((hn xs).1.set 14 (.inl (0, .inl ys)), (hn xs).2) = hn ys := fun xs ys => by
    show ((l.set 14 _).set 14 _, s0) = _
    rw [List.set_set]
  rw [hN _ c14]
  refine mR_ix [(0, .ref 0), (1, .int 1), (2, .ref k), (3, .null)] rfl rfl rfl ?_
  show mE _ _ _ _ _ (0, _, _, hn _) _
  refine mE_aldn 1 rfl rfl rfl rfl ?_
  refine mE_gf 4 rfl rfl (n0 _) f7 rfl ?_
  refine mE_gf 7 rfl rfl (n13 _) rfl rfl ?_
  refine mE_ast 9 [(4, .ref 14), (0, .ref 0), (1, .int 1), (2, .ref k), (3, .null)] rfl rfl rfl rfl ?_
  refine mE_ald 11 rfl rfl rfl rfl ?_
  refine mE_ico 12 0 rfl rfl rfl ?_
  refine mE_aldn 13 rfl rfl rfl rfl ?_
  refine mE_gf 16 rfl rfl (n0 _) f12 rfl ?_
  refine mE_bip 18 20 rfl rfl rfl ?_
  refine mE_irem 19 _ rfl (by decide) rfl rfl ?_
  refine mE_isa 20 0 rfl (n14 _) rfl (ib (n := 10) rfl (by decide)) rfl ?_
  rw [ss]
  refine mE_ald 22 rfl rfl rfl rfl ?_
  refine mE_ico 23 1 rfl rfl rfl ?_
  refine mE_aldn 24 rfl rfl rfl rfl ?_
  refine mE_gf 27 rfl rfl (n0 _) f12 rfl ?_
  refine mE_bip 29 20 rfl rfl rfl ?_
  refine mE_idiv 30 _ rfl (by decide) rfl rfl ?_
  refine mE_isa 31 1 rfl (n14 _) rfl (ib (n := 10) rfl (by decide)) rfl ?_
  rw [ss]
  refine mE_ald 33 rfl rfl rfl rfl ?_
  refine mE_ico 34 2 rfl rfl rfl ?_
  refine mE_aldn 35 rfl rfl rfl rfl ?_
  refine mE_non_n 38 rfl rfl ?_
  refine mE_ico 39 0 rfl rfl rfl ?_
  refine mE_goto 46 rfl rfl ?_
  refine mE_isa 47 2 rfl (n14 _) rfl (ib (n := 10) rfl (by decide)) rfl ?_
  rw [ss]
  refine mE_ald 49 rfl rfl rfl rfl ?_
  refine mE_ico 50 3 rfl rfl rfl ?_
  refine mE_aldn 51 rfl rfl rfl rfl ?_
  refine mE_nul_n 70 rfl rfl ?_
  refine mE_ico 71 0 rfl rfl rfl ?_
  refine mE_isa 72 3 rfl (n14 _) rfl (ib (n := 10) rfl (by decide)) rfl ?_
  rw [ss]
  refine mE_ald 74 rfl rfl rfl rfl ?_
  refine mE_ico 75 4 rfl rfl rfl ?_
  refine mE_aldn 76 rfl rfl rfl rfl ?_
  refine mE_nul_n 90 rfl rfl ?_
  refine mE_ico 91 0 rfl rfl rfl ?_
  refine mE_isa 92 4 rfl (n14 _) rfl (ib (n := 10) rfl (by decide)) rfl ?_
  rw [ss]
  refine mE_ald 94 rfl rfl rfl rfl ?_
  refine mE_ico 95 5 rfl rfl rfl ?_
  refine mE_aldn 96 rfl rfl rfl rfl ?_
  refine mE_non_n 99 rfl rfl ?_
  refine mE_ico 100 0 rfl rfl rfl ?_
  refine mE_goto 107 rfl rfl ?_
  refine mE_isa 108 5 rfl (n14 _) rfl (ib (n := 10) rfl (by decide)) rfl ?_
  rw [ss]
  refine mE_ald 110 rfl rfl rfl rfl ?_
  refine mE_bip 112 6 rfl rfl rfl ?_
  refine mE_aldn 113 rfl rfl rfl rfl ?_
  refine mE_non_n 116 rfl rfl ?_
  refine mE_ico 117 0 rfl rfl rfl ?_
  refine mE_goto 124 rfl rfl ?_
  refine mE_isa 125 6 rfl (n14 _) rfl (ib (n := 10) rfl (by decide)) rfl ?_
  rw [ss]
  refine mE_ald 127 rfl rfl rfl rfl ?_
  refine mE_bip 129 7 rfl rfl rfl ?_
  refine mE_aldn 130 rfl rfl rfl rfl ?_
  refine mE_gf 133 rfl rfl (nk _) h3 rfl ?_
  refine mE_isa 134 7 rfl (n14 _) rfl (ib (n := 10) rfl (by decide)) rfl ?_
  rw [ss]
  refine mE_ald 136 rfl rfl rfl rfl ?_
  refine mE_bip 138 8 rfl rfl rfl ?_
  refine mE_aldn 139 rfl rfl rfl rfl ?_
  refine mE_gf 142 rfl rfl (nk _) h7 rfl ?_
  refine mE_isa 143 8 rfl (n14 _) rfl (ib (n := 10) rfl (by decide)) rfl ?_
  rw [ss]
  refine mE_ald 145 rfl rfl rfl rfl ?_
  refine mE_bip 147 9 rfl rfl rfl ?_
  refine mE_aldn 148 rfl rfl rfl rfl ?_
  refine mE_gf 151 rfl rfl (nk _) h0 rfl ?_
  refine mE_isa 152 9 rfl (n14 _) rfl (ib (n := 10) rfl (by decide)) rfl ?_
  rw [ss]
  refine mE_aldn 153 rfl rfl rfl rfl ?_
  refine mE_gf 156 rfl rfl (n0 _) f7 rfl ?_
  refine mE_aldn 157 rfl rfl rfl rfl ?_
  refine mE_gf 160 rfl rfl (n0 _) f4 rfl ?_
  refine mE_ildn 161 rfl rfl rfl rfl ?_
  refine mE_qla 162 rfl (n5 _) rfl (by decide) rfl rfl ?_
  refine mE_gf 165 rfl rfl (n33 _) rfl rfl ?_
  refine mE_cv [.ref t] [] rfl rfl rfl rfl (n13 _) rfl ?_
  show mR (d + 2) 35 [.ref 13, .ref t] (hn (nmL w b n u)) _
  have e15' : (hn (nmL w b n u)).1[15]? = some (.inl (0, .inl vs)) := (List.getElem?_set_ne (by decide)).trans e15
  have hc' : rkC (hn (nmL w b n u)).1 t (nmL w b n u) st sz ct := ⟨⟨n13 _, n14 _, by rw [List.length_set]; exact c15⟩, ⟨(List.getElem?_set_ne (by omega)).trans cT, (List.getElem?_set_ne (by omega)).trans cS, ht⟩, rfl, ls⟩
  obtain ⟨r1, hA, kA, rfl, vs', rfl⟩ := r_reckon (d := d) (s0 := s0) hc' lv hP hS hrun
  have hself : hV (hn (nmL w b n u)).1 s0 vs = hn (nmL w b n u) := by
    show ((hn (nmL w b n u)).1.set 15 _, s0) = _
    rw [set_selfC e15']
  rw [hself] at kA
  refine ⟨_, _, kA, ?_⟩
  exact mE_iret rfl ⟨rfl, rfl, _, _, rfl⟩
