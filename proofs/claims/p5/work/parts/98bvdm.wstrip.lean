theorem fF7_H {ci j : Nat} (h : fF7 ci j = true) : fFH ci j = true := by
  unfold fF7 at h
  unfold fFH
  simp only [Bool.or_eq_true, Bool.and_eq_true, Nat.beq_eq] at h ⊢
  omega
theorem fk_H7 {h h' : List mC} (a : fk fFH h h') : fk fF7 h h' := fun k ci fs e => by
  obtain ⟨fs', e1, e2⟩ := a k ci fs e
  exact ⟨fs', e1, fun j hj => e2 j (fF7_H hj)⟩
theorem A7_fk {h h' : List mC} (a : fk fFH h h') {c : Nat} {fs : List Value} (e : h[c]? = some (.inr (4, fs))) : A7 h' c = A7 h c := by
  obtain ⟨fs', e1, e2⟩ := a c 4 fs e
  unfold A7
  rw [e, e1]
  exact e2 7 rfl
/-- a strip more for the house of cell c -/
def GS (qs : List (Option Nat)) (z : Int32) (h h' : List mC) : Prop := ∃ c : Nat, qs[z.toNatClampNeg]? = some (some c) ∧ 0 ≤ z.toInt ∧ fk fF7 h h' ∧ ∀ (c' : Nat) (fs : List Value), h[c']? = some (.inr (4, fs)) → A7 h' c' = up7 (A7 h) c 1 c'
set_option maxRecDepth 10000 in
set_option maxHeartbeats 1000000 in
theorem w_strip {d : Nat} {x y z : Int32} {h h' : mS} {r : Option Value} {f0 : List Value} {qs : List (Option Nat)} (a1 : h.1[0]? = some (.inr (10, f0))) (a2 : f0[0]? = some (.ref 1)) (a3 : h.1[1]? = some (.inl (2, .inr qs))) (e : mcall (d + 2) 59 [.ref 0, .int x, .int y, .int z] h = some (r, h')) : h' = h ∨ GS qs z h.1 h'.1 := by
  let P : Option Value → mS → Prop := fun r h' => h' = h ∨ GS qs z h.1 h'.1
  refine Q_call (P := P) rfl e (fun ha => ?_)
  have no : mPq mfuel (mcall (d + 1)) 5 (mgd 125 mtX10_strip) (27, lv_args 0 [.ref 0, .int x, .int y, .int z], [], h) P := by
    refine Q_ico rfl ?_
    exact Q_iret rfl (fun _ => Or.inl rfl)
  refine Q_i rfl rfl ?_
  refine Q_ico rfl ?_
  refine Q_ico rfl ?_
  refine Q_cs [.int x, .int 0, .int 2] [] rfl rfl rfl rfl (fun r4 h4 e4 => ?_)
  have := ro_call rfl e4
  subst this
  obtain ⟨b1, rfl⟩ := ret_b (ret_ok rfl e4)
  refine Q_if_eq rfl (fun _ _ _ => no) (fun _ _ _ => ?_)
  refine Q_i rfl rfl ?_
  refine Q_ico rfl ?_
  refine Q_bip rfl ?_
  refine Q_cs [.int y, .int 1, .int 9] [] rfl rfl rfl rfl (fun r5 h5 e5 => ?_)
  have := ro_call rfl e5
  subst this
  obtain ⟨b2, rfl⟩ := ret_b (ret_ok rfl e5)
  refine Q_if_eq rfl (fun _ _ _ => no) (fun _ _ _ => ?_)
  refine Q_a rfl rfl ?_
  refine Q_i rfl rfl ?_
  refine Q_cv [.int z] (.ref 0) [] rfl rfl rfl rfl (fun r6 h6 e6 => ?_)
  have := ro_call rfl e6
  subst this
  obtain ⟨b3, rfl⟩ := ret_b (ret_ok rfl e6)
  refine Q_if_ne rfl (fun _ _ _ => ?_) (fun _ _ _ => no)
  clear e4 e5 e6
  refine Q_a rfl rfl ?_
  refine Q_gf rfl rfl (fun _ _ _ _ _ _ => ?_)
  refine Q_bip rfl ?_
  refine Q_ic_lt rfl (fun _ _ _ _ _ => ?_) (fun _ _ _ _ _ => ?_)
  rotate_left
  · refine Q_bip rfl ?_
    exact Q_iret rfl (fun _ => Or.inl rfl)
  refine Q_nw rfl (fun D n => ?_)
  generalize hL : h6.1.length = L
  generalize hN : h6.1 ++ [Sum.inr (7, D)] = N
  have N0 : ∀ (c : Nat) (q : mC), h6.1[c]? = some q → N[c]? = some q := by
    intro c q hc
    rw [← hN, List.getElem?_append_left (List.getElem?_eq_some_iff.mp hc).1]
    exact hc
  have F0 : fk fFH h6.1 N := hN ▸ fk_app
  refine Q_dup rfl ?_
  refine Q_a rfl rfl ?_
  refine Q_gf rfl rfl (fun _ _ _ _ _ _ => ?_)
  refine Q_i rfl rfl ?_
  refine Q_a rfl rfl ?_
  refine Q_gf rfl rfl (fun _ _ _ _ _ _ => ?_)
  refine Q_i rfl rfl ?_
  refine Q_aa rfl (fun _ _ _ _ _ _ _ _ _ _ => ?_)
  refine Q_i rfl rfl ?_
  refine Q_a rfl rfl ?_
  refine Q_gf rfl rfl (fun _ _ _ _ _ _ => ?_)
  refine Q_i rfl rfl ?_
  refine Q_aa rfl (fun _ _ _ _ _ _ _ _ _ _ => ?_)
  refine Q_gf rfl rfl (fun _ _ _ _ _ _ => ?_)
  refine Q_csp _ (.ref L) [.ref L] rfl rfl rfl rfl (fun r7 h7 e7 => ?_)
  have n7 := n7_init e7
  have F7 : fk fFH N h7.1 := mcall_fk fS_H _ _ _ _ _ _ (elem_mem (show SH.elem 38 = true from rfl)) e7
  have := ret_0 (ret_ok rfl e7)
  subst this
  clear e7
  refine Q_asw rfl (lva_all _ _ ha) (fun lv1 g4 gj gl => ?_)
  have g0 : mget lv1 0 = some (.ref 0) := gj 0 (by decide)
  have g1 : mget lv1 1 = some (.int x) := gj 1 (by decide)
  have g3 : mget lv1 3 = some (.int z) := gj 3 (by decide)
  have A1 : h7.1[0]? = some (.inr (10, f0)) := n7 0 _ (N0 0 _ a1) (fun fs q => by cases q)
  have A3 : h7.1[1]? = some (.inl (2, .inr qs)) := n7 1 _ (N0 1 _ a3) (fun fs q => by cases q)
  refine Q_a rfl g0 ?_
  refine Q_g rfl rfl A1 a2 ?_
  refine Q_i rfl g3 ?_
  refine Q_aa rfl (fun i a t qs' u ei ea eq i0 hu => ?_)
  cases ei
  cases ea
  rw [A3] at eq
  cases eq
  refine Q_aw rfl g4 ?_
  refine Q_cv [.ref L] (mrf u) [] rfl rfl rfl rfl (fun r8 h8 e8 => ?_)
  obtain ⟨c, k1, k2, k3⟩ := w_gain e8
  have F8 : fk fF7 h7.1 h8.1 := mcall_fk fS_98 _ _ _ _ _ _ (by decide) e8
  have := ret_0 (ret_ok rfl e8)
  subst this
  clear e8
  have hc : u = some c := by
    cases u with
    | none => cases k1
    | some u => cases k1; rfl
  subst hc
  have fin : ∀ h9 : mS, fk fFH h8.1 h9.1 → P (some .null) h9 ∧ ∀ r, P r h9 := by
    intro h9 F9
    have : GS qs z h6.1 h9.1 := by
      refine ⟨c, hu, i0, (fk_H7 (F0.trans F7)).trans (F8.trans (fk_H7 F9)), fun c' fs hc' => ?_⟩
      have e7 : h7.1[c']? = some (.inr (4, fs)) := n7 c' _ (N0 c' _ hc') (fun fs q => by cases q)
      obtain ⟨fs8, e8, -⟩ := F8 c' 4 fs e7
      rw [A7_fk F9 e8, k2]
      have q7 : ∀ cc, (∃ fs, h6.1[cc]? = some (.inr (4, fs))) → A7 h7.1 cc = A7 h6.1 cc := by
        intro cc ⟨fs, q⟩
        have : h7.1[cc]? = some (.inr (4, fs)) := n7 cc _ (N0 cc _ q) (fun fs q => by cases q)
        unfold A7
        rw [this, q]
      unfold up7
      by_cases hcc : c' = c
      · subst hcc
        rw [if_pos rfl, if_pos rfl, q7 _ ⟨fs, hc'⟩]
      · rw [if_neg hcc, if_neg hcc, q7 _ ⟨fs, hc'⟩]
    exact ⟨Or.inr this, fun _ => Or.inr this⟩
  refine Q_a rfl g0 ?_
  refine Q_gf rfl rfl (fun _ _ _ _ _ _ => ?_)
  refine Q_i rfl g1 ?_
  refine Q_aa rfl (fun _ _ _ _ _ _ _ _ _ _ => ?_)
  refine Q_aw rfl g4 ?_
  refine Q_cv [.ref L] _ [] rfl rfl rfl rfl (fun r9 h9 e9 => ?_)
  have F9 : fk fFH h8.1 h9.1 := mcall_fk fS_H _ _ _ _ _ _ (elem_mem (show SH.elem 15 = true from rfl)) e9
  have := ret_0 (ret_ok rfl e9)
  subst this
  clear e9
  refine Q_a rfl g0 ?_
  refine Q_gf rfl rfl (fun _ _ _ _ _ _ => ?_)
  refine Q_a rfl g0 ?_
  refine Q_gf rfl rfl (fun _ _ _ _ _ _ => ?_)
  refine Q_aw rfl g4 ?_
  refine Q_aas rfl (fun aa q q' hq => ?_)
  have F10 : fk fFH h9.1 (h9.1.set aa (.inl q')) := fk_arr hq
  generalize hX : (h9.1.set aa (.inl q'), h9.2) = X
  have F10 : fk fFH h9.1 X.1 := hX ▸ F10
  clear hX
  refine Q_a rfl g0 ?_
  refine Q_dup rfl ?_
  refine Q_gf rfl rfl (fun _ _ _ _ _ _ => ?_)
  refine Q_ico rfl ?_
  refine Q_bin rfl rfl (fun p1 p2 _ _ => ?_)
  refine Q_pf rfl (fun a' fs' ea' ec' hl => ?_)
  have F11 : fk fFH X.1 (X.1.set a' (.inr (10, fs'.set 11 (.int (p1 + p2))))) := fk_put rfl ec'
  generalize hY : (X.1.set a' (.inr (10, fs'.set 11 (.int (p1 + p2)))), X.2) = Y
  have F11 : fk fFH X.1 Y.1 := hY ▸ F11
  clear hY
  refine Q_a rfl g0 ?_
  refine Q_cv [] (.ref 0) [] rfl rfl rfl rfl (fun r12 h12 e12 => ?_)
  have F12 : fk fFH Y.1 h12.1 := mcall_fk fS_H _ _ _ _ _ _ (elem_mem (show SH.elem 96 = true from rfl)) e12
  obtain ⟨b12, rfl⟩ := ret_i (ret_ok rfl e12)
  refine Q_pop rfl ?_
  refine Q_aw rfl g4 ?_
  refine Q_gf rfl rfl (fun _ _ _ _ _ _ => ?_)
  exact Q_iret rfl (fin h12 (F9.trans (F10.trans (F11.trans F12)))).2
