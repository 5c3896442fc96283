/-! the tape: add, feed, clear, make of both -/
theorem b255 : ∀ j : Fin 32, 8 ≤ j.val → (255#32)[j.val] = false := by decide
theorem cbK (y : Int32) (s : UInt32) (t : Int32) (n : Nat) (hn : n ≤ 24) (hs : (s.toBitVec % 32#32) = BitVec.ofNat 32 n) (h2 : t.toBitVec.smod 32#32 = BitVec.ofNat 32 n) : ((y.toUInt32 >>> s).toInt32) &&& 255 = (y >>> t) &&& 255 := by
  apply Int32.toBitVec_inj.mp
  have e255 : (255 : Int32).toBitVec = 255#32 := rfl
  have a1 : (y.toUInt32 >>> s).toBitVec = y.toBitVec >>> (s.toBitVec % 32#32) := rfl
  have a2 : (y >>> t).toBitVec = y.toBitVec.sshiftRight' (t.toBitVec.smod 32#32) := rfl
  simp only [Int32.toBitVec_and, UInt32.toBitVec_toInt32, e255]
  rw [a1, a2, hs, h2]
  have hm : (BitVec.ofNat 32 n).toNat = n := by rw [BitVec.toNat_ofNat]; omega
  ext i hi
  rw [BitVec.getElem_and, BitVec.getElem_and]
  by_cases h8 : i < 8
  · congr 1
    rw [BitVec.getElem_sshiftRight']
    rw [dif_pos (show (BitVec.ofNat 32 n).toNat + i < 32 by rw [hm]; omega)]
    show (y.toBitVec >>> (BitVec.ofNat 32 n).toNat)[i] = _
    rw [BitVec.getElem_ushiftRight, BitVec.getLsbD_eq_getElem]
  · have : (255#32)[i] = false := by
      exact b255 ⟨i, hi⟩ (by show 8 ≤ i; omega)
    rw [this, Bool.and_false, Bool.and_false]
def cb (y i : Int32) : Int32 := ((y.toUInt32 >>> ((8 * i).toUInt32 &&& Int32.toUInt32 31)).toInt32) &&& 255
def mb (y i : Int32) : Int32 := (y >>> ((8 * i) &&& 31)) &&& 255
theorem cb_mb (y : Int32) {i : Int32} (h0 : 0 ≤ i.toInt) (h1 : i.toInt ≤ 3) : cb y i = mb y i := by
  have : i = 0 ∨ i = 1 ∨ i = 2 ∨ i = 3 := by
    have h : i.toInt = 0 ∨ i.toInt = 1 ∨ i.toInt = 2 ∨ i.toInt = 3 := by omega
    rcases h with h | h | h | h
    · exact Or.inl (Int32.toInt_inj.mp h)
    · exact Or.inr (Or.inl (Int32.toInt_inj.mp h))
    · exact Or.inr (Or.inr (Or.inl (Int32.toInt_inj.mp h)))
    · exact Or.inr (Or.inr (Or.inr (Int32.toInt_inj.mp h)))
  unfold cb mb
  rcases this with h | h | h | h <;> subst h
  · exact cbK y _ _ 0 (by decide) (by decide) (by decide)
  · exact cbK y _ _ 8 (by decide) (by decide) (by decide)
  · exact cbK y _ _ 16 (by decide) (by decide) (by decide)
  · exact cbK y _ _ 24 (by decide) (by decide) (by decide)
theorem mb_rng (y i : Int32) : 0 ≤ (mb y i).toInt ∧ (mb y i).toInt ≤ 255 := and_rng (by decide) (by decide)
/-- the bytes behind j more -/
def fdF (y : Int32) : Nat → Int32 → Int32 → List Int32 → List Int32
  | 0, _, _, bs => bs
  | j + 1, i, n, bs => fdF y j (i + 1) (n + 1) (bs.set n.toNatClampNeg (mb y i))
set_option maxRecDepth 10000 in
set_option maxHeartbeats 2000000 in
theorem r_add {d : Nat} {h : mS} {n v : Int32} {bs : List Int32} (e6 : h.1[6]? = some (.inr (8, [.ref 7, .int n]))) (e7 : h.1[7]? = some (.inl (0, .inl bs))) (hb : bs.length = 60) (n0 : 0 ≤ n.toInt) (n1 : n.toInt < 60) : mR (d + 1) 51 [.ref 6, .int v] h (fun r h' => r = none ∧ h' = ((h.1.set 7 (.inl (0, .inl (bs.set n.toNatClampNeg v)))).set 6 (.inr (8, [.ref 7, .int (n + 1)])), h.2)) := by
  have e60 : (60 : Int32).toInt = 60 := by decide
  have e0 : (0 : Int32).toInt = 0 := by decide
  have nc : (n.toNatClampNeg : Int) = n.toInt := by
    show ((n.toInt.toNat : Nat) : Int) = n.toInt
    omega
  have e6' : (h.1.set 7 (.inl (0, .inl (bs.set n.toNatClampNeg v))))[6]? = some (.inr (8, [.ref 7, .int n])) := (List.getElem?_set_ne (by decide)).trans e6
  refine mR_ix [(0, .ref 6), (1, .int v)] rfl rfl rfl ?_
  refine mE_aldn 1 rfl rfl rfl rfl ?_
  refine mE_gf 4 rfl rfl e6 rfl rfl ?_
  refine mE_bip 6 (60) rfl rfl rfl ?_
  refine mE_ic_ge_f 9 rfl (fun q => by have := Int32.le_iff_toInt_le.mp q; omega) rfl ?_
  refine mE_aldn 10 rfl rfl rfl rfl ?_
  refine mE_gf 13 rfl rfl e6 rfl rfl ?_
  refine mE_aldn 14 rfl rfl rfl rfl ?_
  refine mE_gf 17 rfl rfl e6 rfl rfl ?_
  refine mE_ildn 18 rfl rfl rfl rfl ?_
  refine mE_isa 19 n.toNatClampNeg rfl e7 rfl (by rintro (q | q); have := Int32.lt_iff_toInt_lt.mp q; omega; omega) rfl ?_
  refine mE_aldn 20 rfl rfl rfl rfl ?_
  refine mE_dup 21 rfl rfl rfl ?_
  refine mE_gf 24 rfl rfl e6' rfl rfl ?_
  refine mE_ico 25 (1) rfl rfl rfl ?_
  refine mE_iadd 26 (n + 1) rfl rfl rfl ?_
  refine mE_pf 29 rfl e6' rfl rfl ?_
  exact mE_vret rfl ⟨rfl, rfl, rfl⟩
def fOkx (x : Int32) : Prop := 1 ≤ x.toInt ∧ x.toInt ≤ 4
set_option maxRecDepth 10000 in
set_option maxHeartbeats 2000000 in
theorem r_feedL {d : Nat} {f0 : List Value} (f5 : f0[5]? = some (.ref 6)) {x y : Int32} (hx : fOkx x) : ∀ (j : Nat) (i n : Int32) (bs : List Int32) (h : mS), i.toInt + j = x.toInt → 0 ≤ i.toInt → h.1[0]? = some (.inr (10, f0)) → h.1[6]? = some (.inr (8, [.ref 7, .int n])) → h.1[7]? = some (.inl (0, .inl bs)) → bs.length = 60 → 0 ≤ n.toInt → n.toInt + j ≤ 60 → mE (mcall (d + 1)) none 4 (mgd 66 mtX10_feed) (20 * j + 20) (30, [(3, .int i), (0, .ref 0), (1, .int x), (2, .int y)], [], h) (fun r h' => mretok (some .int) r = true ∧ ∃ n' : Int32, n'.toInt = n.toInt + j ∧ r = some (.int n') ∧ h'.1[6]? = some (.inr (8, [.ref 7, .int n'])) ∧ h'.1[7]? = some (.inl (0, .inl (fdF y j i n bs)))) := by
  have e1 : (1 : Int32).toInt = 1 := by decide
  intro j
  induction j with
  | zero =>
    intro i n bs h hi i0 e0 e6 e7 hb n0 n1
    refine mE_ildn 31 rfl rfl rfl rfl ?_
    refine mE_ildn 32 rfl rfl rfl rfl ?_
    refine mE_ic_ge_t 58 rfl (Int32.le_iff_toInt_le.mpr (by omega)) rfl ?_
    refine mE_aldn 59 rfl rfl rfl rfl ?_
    refine mE_gf 62 rfl rfl e0 f5 rfl ?_
    refine mE_gf 65 rfl rfl e6 rfl rfl ?_
    exact mE_iret rfl ⟨rfl, n, by omega, rfl, e6, e7⟩
  | succ j ih =>
    intro i n bs h hi i0 e0 e6 e7 hb n0 n1
    have hx := hx
    obtain ⟨hx0, hx1⟩ := hx
    have ii : (i + 1).toInt = i.toInt + 1 := by rw [add_id (by omega) (by omega), e1]
    have ni : (n + 1).toInt = n.toInt + 1 := by rw [add_id (by omega) (by omega), e1]
    have l6 : 6 < h.1.length := (List.getElem?_eq_some_iff.mp e6).1
    have l7 : 7 < h.1.length := (List.getElem?_eq_some_iff.mp e7).1
    rw [show 20 * (j + 1) + 20 = (20 * j + 20) + 20 by omega]
    refine mE_ildn 31 rfl rfl rfl rfl ?_
    refine mE_ildn 32 rfl rfl rfl rfl ?_
    refine mE_ic_ge_f 35 rfl (fun q => by have := Int32.le_iff_toInt_le.mp q; omega) rfl ?_
    refine mE_aldn 36 rfl rfl rfl rfl ?_
    refine mE_gf 39 rfl rfl e0 f5 rfl ?_
    refine mE_ildn 40 rfl rfl rfl rfl ?_
    refine mE_bip 42 8 rfl rfl rfl ?_
    refine mE_ildn 43 rfl rfl rfl rfl ?_
    refine mE_imul 44 (8 * i) rfl rfl rfl ?_
    refine mE_iushr 45 ((y.toUInt32 >>> ((8 * i).toUInt32 &&& Int32.toUInt32 31)).toInt32) rfl rfl rfl ?_
    refine mE_sip 48 255 rfl rfl rfl ?_
    refine mE_iand 49 (mb y i) rfl (cb_mb y i0 (by omega)) rfl ?_
    refine mE_cv [.int (mb y i)] [] rfl rfl rfl rfl e6 rfl ?_
    obtain ⟨r, hA, k1, rfl, rfl⟩ := r_add (d := d) (v := mb y i) e6 e7 hb n0 (by omega)
    refine ⟨_, _, k1, ?_⟩
    refine mE_iinc 55 (i + 1) [(3, .int (i + 1)), (0, .ref 0), (1, .int x), (2, .int y)] rfl rfl rfl rfl rfl rfl ?_
    refine mE_goto 30 rfl rfl ?_
    refine mE_le (mE_imp (ih (i + 1) (n + 1) (bs.set n.toNatClampNeg (mb y i)) _ (by omega) (by omega) ?_ ?_ ?_ (by rw [List.length_set]; exact hb) (by omega) (by omega)) (fun r h' q => ?_)) (by omega)
    · exact (List.getElem?_set_ne (by decide)).trans ((List.getElem?_set_ne (by decide)).trans e0)
    · exact List.getElem?_set_self (by rw [List.length_set]; exact l6)
    · exact (List.getElem?_set_ne (by decide)).trans (List.getElem?_set_self l7)
    · obtain ⟨q0, n', q1, q2, q3, q4⟩ := q
      exact ⟨q0, n', by omega, q2, q3, q4⟩
/-- what feed does: P n' bs' h' tells the new tape -/
def fdP (x y n : Int32) (bs : List Int32) (P : Int32 → List Int32 → mS → Prop) (h : mS) (r : Option Value) (h' : mS) : Prop := (¬ fOkx x ∧ r = some (.int (-1)) ∧ h' = h) ∨ (fOkx x ∧ 60 < n.toInt + x.toInt ∧ r = some (.int (-2)) ∧ h' = h) ∨ (fOkx x ∧ n.toInt + x.toInt ≤ 60 ∧ ∃ n' : Int32, n'.toInt = n.toInt + x.toInt ∧ r = some (.int n') ∧ P n' (fdF y x.toNatClampNeg 0 n bs) h')
set_option maxRecDepth 10000 in
set_option maxHeartbeats 2000000 in
theorem r_feed {d : Nat} {f0 : List Value} (f5 : f0[5]? = some (.ref 6)) {x y n : Int32} {bs : List Int32} {h : mS} (e0 : h.1[0]? = some (.inr (10, f0))) (e6 : h.1[6]? = some (.inr (8, [.ref 7, .int n]))) (e7 : h.1[7]? = some (.inl (0, .inl bs))) (hb : bs.length = 60) (n0 : 0 ≤ n.toInt) (n1 : n.toInt ≤ 60) : mR (d + 2) 68 [.ref 0, .int x, .int y] h (fdP x y n bs (fun n' bs' h' => h'.1[6]? = some (.inr (8, [.ref 7, .int n'])) ∧ h'.1[7]? = some (.inl (0, .inl bs'))) h) := by
  have c1 : (1 : Int32).toInt = 1 := by decide
  have c4 : (4 : Int32).toInt = 4 := by decide
  have c60 : (60 : Int32).toInt = 60 := by decide
  have c0 : (0 : Int32).toInt = 0 := by decide
  refine mR_ix [(0, .ref 0), (1, .int x), (2, .int y)] rfl rfl rfl ?_
  refine mE_ildn 1 rfl rfl rfl rfl ?_
  refine mE_ico 2 1 rfl rfl rfl ?_
  refine mE_ico 3 4 rfl rfl rfl ?_
  refine mE_cs [.int x, .int 1, .int 4] [] rfl rfl rfl rfl rfl ?_
  obtain ⟨r, hh, k1, rfl, e9⟩ := r_within d x 1 4 h
  subst e9
  refine ⟨_, _, k1, ?_⟩
  refine mE_if_ne rfl (fun hx => ?_) (fun hx => ?_)
  rotate_left
  · have hx := bit0_iff.mp (Classical.not_not.mp hx)
    rw [within_iff, c1, c4] at hx
    refine mE_ico 10 (-1) rfl rfl rfl ?_
    exact mE_iret rfl ⟨rfl, Or.inl ⟨hx, rfl, rfl⟩⟩
  have hx := Classical.not_not.mp (fun q => hx (bit0_iff.mpr q))
  rw [within_iff, c1, c4] at hx
  have hx' := hx
  obtain ⟨hx0, hx1⟩ := hx'
  have nx : (n + x).toInt = n.toInt + x.toInt := add_id (by omega) (by omega)
  refine mE_aldn 12 rfl rfl rfl rfl ?_
  refine mE_gf 15 rfl rfl e0 f5 rfl ?_
  refine mE_gf 18 rfl rfl e6 rfl rfl ?_
  refine mE_ildn 19 rfl rfl rfl rfl ?_
  refine mE_iadd 20 (n + x) rfl rfl rfl ?_
  refine mE_bip 22 60 rfl rfl rfl ?_
  refine mE_ic_le rfl (fun hl => ?_) (fun hl => ?_)
  rotate_left
  · have hl := Int32.lt_iff_toInt_lt.mp (Int32.not_le.mp hl)
    refine mE_bip 27 (-2) rfl rfl rfl ?_
    exact mE_iret rfl ⟨rfl, Or.inr (Or.inl ⟨hx, by omega, rfl, rfl⟩)⟩
  have hl := Int32.le_iff_toInt_le.mp hl
  have xc : (x.toNatClampNeg : Int) = x.toInt := by
    show ((x.toInt.toNat : Nat) : Int) = x.toInt
    omega
  refine mE_ico 29 0 rfl rfl rfl ?_
  refine mE_istn 30 [(3, .int 0), (0, .ref 0), (1, .int x), (2, .int y)] rfl rfl rfl rfl ?_
  refine mE_le (mE_imp (r_feedL f5 hx x.toNatClampNeg 0 n bs hh (by omega) (by omega) e0 e6 e7 hb n0 (by omega)) (fun r h' q => ?_)) (Nat.le_trans (show 20 * x.toNatClampNeg + 20 ≤ 100 by omega) (Nat.le_of_ble_eq_true rfl))
  obtain ⟨q0, n', q1, q2, q3, q4⟩ := q
  exact ⟨q0, Or.inr (Or.inr ⟨hx, by omega, n', by omega, q2, q3, q4⟩)⟩
theorem fs_set {fs : List Value} {j : Nat} {v w : Value} (h : j ≠ 24) (e : fs[j]? = some w) : (fs.set 24 v)[j]? = some w := (List.getElem?_set_ne (fun q => h q.symm)).trans e
set_option maxRecDepth 10000 in
set_option maxHeartbeats 2000000 in
theorem r_MfeedL {d : Nat} {fs : List Value} (hf : 24 < fs.length) (f23 : fs[23]? = some (.ref 67)) {x y : Int32} (hx : fOkx x) : ∀ (j : Nat) (i n : Int32) (bs : List Int32) (l : List mC) (s : Nat), i.toInt + j = x.toInt → 0 ≤ i.toInt → 67 < l.length → bs.length = 60 → 0 ≤ n.toInt → n.toInt + j ≤ 60 → mE (mcall (d + 1)) none 4 (mgd 72 mtX11_feed) (30 * j + 20) (27, [(3, .int i), (0, .ref 47), (1, .int x), (2, .int y)], [], ((l.set 67 (.inl (0, .inl bs))).set 47 (.inr (11, fs.set 24 (.int n))), s)) (fun r h' => mretok (some .int) r = true ∧ ∃ n' : Int32, n'.toInt = n.toInt + j ∧ r = some (.int n') ∧ h'.1 = (l.set 67 (.inl (0, .inl (fdF y j i n bs)))).set 47 (.inr (11, fs.set 24 (.int n')))) := by
  have e1 : (1 : Int32).toInt = 1 := by decide
  have e0 : (0 : Int32).toInt = 0 := by decide
  intro j
  induction j with
  | zero =>
    intro i n bs l s hi i0 hl hb n0 n1
    have g47 : ((l.set 67 (.inl (0, .inl bs))).set 47 (.inr (11, fs.set 24 (.int n))))[47]? = some (.inr (11, fs.set 24 (.int n))) := List.getElem?_set_self (by rw [List.length_set]; omega)
    refine mE_ildn 28 rfl rfl rfl rfl ?_
    refine mE_ildn 29 rfl rfl rfl rfl ?_
    refine mE_ic_ge_t 67 rfl (Int32.le_iff_toInt_le.mpr (by omega)) rfl ?_
    refine mE_aldn 68 rfl rfl rfl rfl ?_
    refine mE_gf 71 rfl rfl g47 (List.getElem?_set_self hf) rfl ?_
    exact mE_iret rfl ⟨rfl, n, by omega, rfl, rfl⟩
  | succ j ih =>
    intro i n bs l s hi i0 hl hb n0 n1
    have hx := hx
    obtain ⟨hx0, hx1⟩ := hx
    have ii : (i + 1).toInt = i.toInt + 1 := by rw [add_id (by omega) (by omega), e1]
    have ni : (n + 1).toInt = n.toInt + 1 := by rw [add_id (by omega) (by omega), e1]
    have nc : (n.toNatClampNeg : Int) = n.toInt := by
      show ((n.toInt.toNat : Nat) : Int) = n.toInt
      omega
    have g47 : ∀ cs : List Int32, ((l.set 67 (.inl (0, .inl cs))).set 47 (.inr (11, fs.set 24 (.int n))))[47]? = some (.inr (11, fs.set 24 (.int n))) := fun cs => List.getElem?_set_self (by rw [List.length_set]; omega)
    have g67 : ((l.set 67 (.inl (0, .inl bs))).set 47 (.inr (11, fs.set 24 (.int n))))[67]? = some (.inl (0, .inl bs)) := (List.getElem?_set_ne (by decide)).trans (List.getElem?_set_self hl)
    rw [show 30 * (j + 1) + 20 = (30 * j + 20) + 30 by omega]
    refine mE_ildn 28 rfl rfl rfl rfl ?_
    refine mE_ildn 29 rfl rfl rfl rfl ?_
    refine mE_ic_ge_f 32 rfl (fun q => by have := Int32.le_iff_toInt_le.mp q; omega) rfl ?_
    refine mE_aldn 33 rfl rfl rfl rfl ?_
    refine mE_gf 36 rfl rfl (g47 bs) (fs_set (by decide) f23) rfl ?_
    refine mE_aldn 37 rfl rfl rfl rfl ?_
    refine mE_gf 40 rfl rfl (g47 bs) (List.getElem?_set_self hf) rfl ?_
    refine mE_ildn 41 rfl rfl rfl rfl ?_
    refine mE_bip 43 8 rfl rfl rfl ?_
    refine mE_ildn 44 rfl rfl rfl rfl ?_
    refine mE_imul 45 (8 * i) rfl rfl rfl ?_
    refine mE_ishr 46 (y >>> ((8 * i) &&& 31)) rfl rfl rfl ?_
    refine mE_sip 49 255 rfl rfl rfl ?_
    refine mE_iand 50 (mb y i) rfl rfl rfl ?_
    refine mE_isa 51 n.toNatClampNeg rfl g67 rfl (by rintro (q | q); have := Int32.lt_iff_toInt_lt.mp q; omega; omega) rfl ?_
    show mE _ _ _ _ _ (51, _, _, ((((l.set 67 (.inl (0, .inl bs))).set 47 (.inr (11, fs.set 24 (.int n)))).set 67 (.inl (0, .inl (bs.set n.toNatClampNeg (mb y i))))), s)) _
    rw [List.set_comm _ _ (show (47 : Nat) ≠ 67 by decide), List.set_set]
    refine mE_aldn 52 rfl rfl rfl rfl ?_
    refine mE_dup 53 rfl rfl rfl ?_
    refine mE_gf 56 rfl rfl (g47 _) (List.getElem?_set_self hf) rfl ?_
    refine mE_ico 57 1 rfl rfl rfl ?_
    refine mE_iadd 58 (n + 1) rfl rfl rfl ?_
    refine mE_pf 61 rfl (g47 _) (by show (true && Nat.blt 24 (fs.set 24 (.int n)).length) = true; rw [List.length_set, Nat.blt_eq.mpr hf]; rfl) rfl ?_
    show mE _ _ _ _ _ (61, _, _, (((l.set 67 (.inl (0, .inl (bs.set n.toNatClampNeg (mb y i))))).set 47 (.inr (11, fs.set 24 (.int n)))).set 47 (.inr (11, (fs.set 24 (.int n)).set 24 (.int (n + 1)))), s)) _
    rw [List.set_set, List.set_set]
    refine mE_iinc 64 (i + 1) [(3, .int (i + 1)), (0, .ref 47), (1, .int x), (2, .int y)] rfl rfl rfl rfl rfl rfl ?_
    refine mE_goto 27 rfl rfl ?_
    refine mE_le (mE_imp (ih (i + 1) (n + 1) (bs.set n.toNatClampNeg (mb y i)) l s (by omega) (by omega) hl (by rw [List.length_set]; exact hb) (by omega) (by omega)) (fun r h' q => ?_)) (by omega)
    obtain ⟨q0, n', q1, q2, q3⟩ := q
    exact ⟨q0, n', by omega, q2, q3⟩
set_option maxRecDepth 10000 in
set_option maxHeartbeats 2000000 in
theorem r_Mfeed {d : Nat} {fs : List Value} (f23 : fs[23]? = some (.ref 67)) {x y n : Int32} {bs : List Int32} {h : mS} (f24 : fs[24]? = some (.int n)) (e47 : h.1[47]? = some (.inr (11, fs))) (e67 : h.1[67]? = some (.inl (0, .inl bs))) (hb : bs.length = 60) (n0 : 0 ≤ n.toInt) (n1 : n.toInt ≤ 60) : mR (d + 2) 123 [.ref 47, .int x, .int y] h (fdP x y n bs (fun n' bs' h' => h'.1 = (h.1.set 67 (.inl (0, .inl bs'))).set 47 (.inr (11, fs.set 24 (.int n')))) h) := by
  have c1 : (1 : Int32).toInt = 1 := by decide
  have c4 : (4 : Int32).toInt = 4 := by decide
  have c60 : (60 : Int32).toInt = 60 := by decide
  have c0 : (0 : Int32).toInt = 0 := by decide
  refine mR_ix [(0, .ref 47), (1, .int x), (2, .int y)] rfl rfl rfl ?_
  refine mE_ildn 1 rfl rfl rfl rfl ?_
  refine mE_ico 2 1 rfl rfl rfl ?_
  refine mE_ico 3 4 rfl rfl rfl ?_
  refine mE_cs [.int x, .int 1, .int 4] [] rfl rfl rfl rfl rfl ?_
  obtain ⟨r, hh, k1, rfl, e9⟩ := r_Mwithin d x 1 4 h
  subst e9
  refine ⟨_, _, k1, ?_⟩
  refine mE_if_ne rfl (fun hx => ?_) (fun hx => ?_)
  rotate_left
  · have hx := bit0_iff.mp (Classical.not_not.mp hx)
    rw [within_iff, c1, c4] at hx
    refine mE_ico 10 (-1) rfl rfl rfl ?_
    exact mE_iret rfl ⟨rfl, Or.inl ⟨hx, rfl, rfl⟩⟩
  have hx := Classical.not_not.mp (fun q => hx (bit0_iff.mpr q))
  rw [within_iff, c1, c4] at hx
  have hx' := hx
  obtain ⟨hx0, hx1⟩ := hx'
  have nx : (n + x).toInt = n.toInt + x.toInt := add_id (by omega) (by omega)
  refine mE_aldn 12 rfl rfl rfl rfl ?_
  refine mE_gf 15 rfl rfl e47 f24 rfl ?_
  refine mE_ildn 16 rfl rfl rfl rfl ?_
  refine mE_iadd 17 (n + x) rfl rfl rfl ?_
  refine mE_bip 19 60 rfl rfl rfl ?_
  refine mE_ic_le rfl (fun hl => ?_) (fun hl => ?_)
  rotate_left
  · have hl := Int32.lt_iff_toInt_lt.mp (Int32.not_le.mp hl)
    refine mE_bip 24 (-2) rfl rfl rfl ?_
    exact mE_iret rfl ⟨rfl, Or.inr (Or.inl ⟨hx, by omega, rfl, rfl⟩)⟩
  have hl := Int32.le_iff_toInt_le.mp hl
  have xc : (x.toNatClampNeg : Int) = x.toInt := by
    show ((x.toInt.toNat : Nat) : Int) = x.toInt
    omega
  have hf : 24 < fs.length := (List.getElem?_eq_some_iff.mp f24).1
  have l67 : 67 < hh.1.length := (List.getElem?_eq_some_iff.mp e67).1
  have hs : hh = ((hh.1.set 67 (.inl (0, .inl bs))).set 47 (.inr (11, fs.set 24 (.int n))), hh.2) := by
    have a1 : fs.set 24 (.int n) = fs := by
      apply List.ext_getElem?
      intro i
      by_cases hi : 24 = i
      · subst hi
        rw [List.getElem?_set_self hf, f24]
      · rw [List.getElem?_set_ne hi]
    rw [a1, set_self8 e67, set_self8 e47]
  refine mE_ico 26 0 rfl rfl rfl ?_
  refine mE_istn 27 [(3, .int 0), (0, .ref 47), (1, .int x), (2, .int y)] rfl rfl rfl rfl ?_
  have F := r_MfeedL (d := d) (y := y) hf f23 hx x.toNatClampNeg 0 n bs hh.1 hh.2 (by omega) (by omega) l67 hb n0 (by omega)
  rw [← hs] at F
  refine mE_le (mE_imp F (fun r h' q => ?_)) (Nat.le_trans (show 30 * x.toNatClampNeg + 20 ≤ 140 by omega) (Nat.le_of_ble_eq_true rfl))
  obtain ⟨q0, n', q1, q2, q3⟩ := q
  exact ⟨q0, Or.inr (Or.inr ⟨hx, by omega, n', by omega, q2, q3⟩)⟩
set_option maxRecDepth 10000 in
set_option maxHeartbeats 2000000 in
theorem r_clear {d : Nat} {f0 : List Value} (f5 : f0[5]? = some (.ref 6)) {n : Int32} {h : mS} (e0 : h.1[0]? = some (.inr (10, f0))) (e6 : h.1[6]? = some (.inr (8, [.ref 7, .int n]))) : mR (d + 1) 70 [.ref 0] h (fun r h' => r = some (.int n) ∧ h' = (h.1.set 6 (.inr (8, [.ref 7, .int 0])), h.2)) := by
  refine mR_ix [(0, .ref 0)] rfl rfl rfl ?_
  refine mE_aldn 1 rfl rfl rfl rfl ?_
  refine mE_gf 4 rfl rfl e0 f5 rfl ?_
  refine mE_gf 7 rfl rfl e6 rfl rfl ?_
  refine mE_istn 8 [(1, .int n), (0, .ref 0)] rfl rfl rfl rfl ?_
  refine mE_aldn 9 rfl rfl rfl rfl ?_
  refine mE_gf 12 rfl rfl e0 f5 rfl ?_
  refine mE_ico 13 0 rfl rfl rfl ?_
  refine mE_pf 16 rfl e6 rfl rfl ?_
  refine mE_ildn 17 rfl rfl rfl rfl ?_
  exact mE_iret rfl ⟨rfl, rfl, rfl⟩
set_option maxRecDepth 10000 in
set_option maxHeartbeats 2000000 in
theorem r_Mclear {d : Nat} {fs : List Value} {n : Int32} {h : mS} (f24 : fs[24]? = some (.int n)) (e47 : h.1[47]? = some (.inr (11, fs))) : mR (d + 1) 125 [.ref 47] h (fun r h' => r = some (.int n) ∧ h' = (h.1.set 47 (.inr (11, fs.set 24 (.int 0))), h.2)) := by
  have hf : 24 < fs.length := (List.getElem?_eq_some_iff.mp f24).1
  refine mR_ix [(0, .ref 47)] rfl rfl rfl ?_
  refine mE_aldn 1 rfl rfl rfl rfl ?_
  refine mE_gf 4 rfl rfl e47 f24 rfl ?_
  refine mE_istn 5 [(1, .int n), (0, .ref 47)] rfl rfl rfl rfl ?_
  refine mE_aldn 6 rfl rfl rfl rfl ?_
  refine mE_ico 7 0 rfl rfl rfl ?_
  refine mE_pf 10 rfl e47 (by show (true && Nat.blt 24 fs.length) = true; rw [Nat.blt_eq.mpr hf]; rfl) rfl ?_
  refine mE_ildn 11 rfl rfl rfl rfl ?_
  exact mE_iret rfl ⟨rfl, rfl, rfl⟩
