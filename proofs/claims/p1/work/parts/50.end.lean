theorem mstep_scr {scr : Option (Nat × (Nat → Int32))} {nL pc : Nat} {lv : mL} {st : List Value} {h : mS} {x : mI} {o : mO} (hs : mstep none nL pc lv st h x = some o) : mstep scr nL pc lv st h x = some o := by
  obtain ⟨i, len, a, b, c3, d⟩ := x
  cases i with
  | arraylength =>
    have hs : malen pc none lv st h = some o := hs
    show malen pc scr lv st h = some o
    unfold malen at hs ⊢
    split at hs
    · exact hs
    · cases hs
    · exact hs
    · cases hs
  | iaload =>
    have hs : mald 0 pc none lv st h = some o := hs
    show mald 0 pc scr lv st h = some o
    unfold mald at hs ⊢
    split at hs
    · exact hs
    · cases hs
    · cases hs
  | if_acmp cd off => cases cd <;> exact hs
  | if_icmp cd off => cases cd <;> exact hs
  | ifCond cd off => cases cd <;> exact hs
  | _ => exact hs
theorem msteps_scr {cal : Nat → List Value → mS → Option (Option Value × mS)} {scr : Option (Nat × (Nat → Int32))} {nL : Nat} {tab : Nat → Option mI} : ∀ (k : Nat) (s s' : mX), msteps cal none nL tab k s = some s' → msteps cal scr nL tab k s = some s' := by
  intro k
  induction k with
  | zero => intro s s' h; exact h
  | succ k ih =>
    intro s s' h
    obtain ⟨pc, lv, st, hp⟩ := s
    unfold msteps at h ⊢
    split at h
    · cases h
    · rename_i x hx
      split at h
      · cases h
      · rename_i s1 hs
        simp only [mstep_scr hs]
        exact ih _ _ h
      · cases h
      · rename_i y as rest hs
        simp only [mstep_scr hs]
        split at h
        · cases h
        · exact ih _ _ h
theorem hMs_all : ∀ y M, mmOf y = some M → mMok y M := fun y M hM => mchk1_ok (mkR_all y (mgd_lt hM)) hM
theorem htab_law : ∀ (pc : Nat) (x : mI), mgd mLlaw mtL_law pc = some x → decode code pc = .ok (x.1, x.2.1) ∧ mok RL "law" pc x = true := fun pc x hx => mokAt_at (mkL_all pc (mgd_lt hx)) hx
theorem mk_all {y1 y2 n : Nat} {f : Nat → List Value} (h : (List.range n).all (fun j => mbothB y1 y2 (f j)) = true) {j : Nat} (hj : j < n) : mBoth y1 y2 (f j) := mbothB_ok (List.all_eq_true.mp h j (List.mem_range.mpr hj))
theorem mrange {x lo hi : Int32} {n : Nat} (hn : hi.toInt = n) (h0 : lo.toInt = 0) (h1 : ¬ x < lo) (h2 : ¬ hi < x) : ∃ j : Nat, j ≤ n ∧ x = nI j := by
  have hlo : lo = 0 := by
    have := Int32.toInt_inj.mp (show lo.toInt = (0 : Int32).toInt by rw [h0]; decide)
    exact this
  subst hlo
  exact nI_of2 hn h1 (Int32.not_lt.mp h2)
theorem mrange1 {x hi : Int32} {n : Nat} (hn : hi.toInt = n) (h1 : ¬ x < 1) (h2 : ¬ hi < x) : ∃ j : Nat, j < n ∧ x = nI (j + 1) := by
  obtain ⟨j, hj, e⟩ := nI_of2 hn (fun q => h1 (by
    have h3 := Int32.lt_iff_toInt_lt.mp q
    apply Int32.lt_iff_toInt_lt.mpr
    have e0 : (0 : Int32).toInt = 0 := by decide
    have e1 : (1 : Int32).toInt = 1 := by decide
    omega)) (Int32.not_lt.mp h2)
  cases j with
  | zero => exact absurd (show x < 1 by rw [e]; decide) h1
  | succ j => exact ⟨j, by omega, e⟩
theorem a_week (n : Int32) : mBoth 64 141 [.int n] := by
  by_cases h1 : n < 1
  · exact b_week_lo n h1
  by_cases h2 : 40 < n
  · exact b_week_hi n h2
  obtain ⟨j, hj, rfl⟩ := mrange1 (hi := 40) (n := 40) (by decide) h1 h2
  match j, hj with
  | 0, _ => exact mbothB_ok k_week_1
  | 1, _ => exact mbothB_ok k_week_2
  | 2, _ => exact mbothB_ok k_week_3
  | 3, _ => exact mbothB_ok k_week_4
  | 4, _ => exact mbothB_ok k_week_5
  | 5, _ => exact mbothB_ok k_week_6
  | 6, _ => exact mbothB_ok k_week_7
  | 7, _ => exact mbothB_ok k_week_8
  | 8, _ => exact mbothB_ok k_week_9
  | 9, _ => exact mbothB_ok k_week_10
  | 10, _ => exact mbothB_ok k_week_11
  | 11, _ => exact mbothB_ok k_week_12
  | 12, _ => exact mbothB_ok k_week_13
  | 13, _ => exact mbothB_ok k_week_14
  | 14, _ => exact mbothB_ok k_week_15
  | 15, _ => exact mbothB_ok k_week_16
  | 16, _ => exact mbothB_ok k_week_17
  | 17, _ => exact mbothB_ok k_week_18
  | 18, _ => exact mbothB_ok k_week_19
  | 19, _ => exact mbothB_ok k_week_20
  | 20, _ => exact mbothB_ok k_week_21
  | 21, _ => exact mbothB_ok k_week_22
  | 22, _ => exact mbothB_ok k_week_23
  | 23, _ => exact mbothB_ok k_week_24
  | 24, _ => exact mbothB_ok k_week_25
  | 25, _ => exact mbothB_ok k_week_26
  | 26, _ => exact mbothB_ok k_week_27
  | 27, _ => exact mbothB_ok k_week_28
  | 28, _ => exact mbothB_ok k_week_29
  | 29, _ => exact mbothB_ok k_week_30
  | 30, _ => exact mbothB_ok k_week_31
  | 31, _ => exact mbothB_ok k_week_32
  | 32, _ => exact mbothB_ok k_week_33
  | 33, _ => exact mbothB_ok k_week_34
  | 34, _ => exact mbothB_ok k_week_35
  | 35, _ => exact mbothB_ok k_week_36
  | 36, _ => exact mbothB_ok k_week_37
  | 37, _ => exact mbothB_ok k_week_38
  | 38, _ => exact mbothB_ok k_week_39
  | 39, _ => exact mbothB_ok k_week_40
  | n + 40, h => exact absurd (show n + 40 < 40 from h) (by omega)
theorem a_fewest (f : Int32) : mBoth 79 159 [.int f] := by
  by_cases h1 : f < 0
  · exact b_fewest_lo f h1
  by_cases h2 : 2 < f
  · exact b_fewest_hi f h2
  obtain ⟨j, hj, rfl⟩ := mrange (lo := 0) (hi := 2) (n := 2) (by decide) (by decide) h1 h2
  exact mk_all k_fewest (Nat.lt_succ_of_le hj)
theorem a_count (w : Int32) : mBoth 80 160 [.int w] := by
  by_cases h1 : w < 0
  · exact b_count_lo w h1
  by_cases h2 : 7 < w
  · exact b_count_hi w h2
  obtain ⟨j, hj, rfl⟩ := mrange (lo := 0) (hi := 7) (n := 7) (by decide) (by decide) h1 h2
  exact mk_all k_count (Nat.lt_succ_of_le hj)
theorem a_rain (w r : Int32) : mBoth 60 130 [.int w, .int r] := by
  by_cases h1 : w < 0
  · exact b_rain_lo w r h1
  by_cases h2 : 19 < w
  · exact b_rain_hi w r h2
  by_cases h3 : r < 0
  · exact b_rain_rlo w r h1 h2 h3
  by_cases h4 : 9 < r
  · exact b_rain_rhi w r h1 h2 h4
  obtain ⟨j, hj, rfl⟩ := mrange (lo := 0) (hi := 19) (n := 19) (by decide) (by decide) h1 h2
  obtain ⟨i, hi, rfl⟩ := mrange (lo := 0) (hi := 9) (n := 9) (by decide) (by decide) h3 h4
  have e1 : (j * 10 + i) / 10 = j := by omega
  have e2 : (j * 10 + i) % 10 = i := by omega
  obtain ⟨q, w, hw, hq, e⟩ : ∃ q w : Nat, w < 20 ∧ q < 10 ∧ j * 10 + i = w + 20 * q := ⟨(j * 10 + i) / 20, (j * 10 + i) % 20, by omega, by omega, by omega⟩
  rw [e] at e1 e2
  rw [← e1, ← e2]
  match q, hq with
  | 0, _ => exact mk_all k_rain_0 (j := w) hw
  | 1, _ => exact mk_all k_rain_1 (j := w) hw
  | 2, _ => exact mk_all k_rain_2 (j := w) hw
  | 3, _ => exact mk_all k_rain_3 (j := w) hw
  | 4, _ => exact mk_all k_rain_4 (j := w) hw
  | 5, _ => exact mk_all k_rain_5 (j := w) hw
  | 6, _ => exact mk_all k_rain_6 (j := w) hw
  | 7, _ => exact mk_all k_rain_7 (j := w) hw
  | 8, _ => exact mk_all k_rain_8 (j := w) hw
  | 9, _ => exact mk_all k_rain_9 (j := w) hw
theorem a_feed (n v : Int32) : mBoth 68 123 [.int n, .int v] := by
  by_cases h1 : n < 1
  · exact b_feed_lo n v h1
  by_cases h2 : 4 < n
  · exact b_feed_hi n v h2
  obtain ⟨j, hj, rfl⟩ := mrange1 (hi := 4) (n := 4) (by decide) h1 h2
  match j, hj with
  | 0, _ => exact b_feed_1 v
  | 1, _ => exact b_feed_2 v
  | 2, _ => exact b_feed_3 v
  | 3, _ => exact b_feed_4 v
theorem a_make (k f : Int32) : mBoth 69 124 [.int k, .int f] := by
  by_cases h1 : k < 0
  · exact b_make_lo k f h1
  by_cases h2 : 2 < k
  · exact b_make_hi k f h2
  obtain ⟨j, hj, rfl⟩ := mrange (lo := 0) (hi := 2) (n := 2) (by decide) (by decide) h1 h2
  match j, hj with
  | 0, _ => exact b_make_0 f
  | 1, _ => exact b_make_1 f
  | 2, _ => exact b_make_2 f
theorem a_text (k i : Int32) : mBoth 72 127 [.int k, .int i] := by
  by_cases h1 : k < 0
  · exact b_text_lo k i h1
  by_cases h2 : 2 < k
  · exact b_text_hi k i h2
  obtain ⟨j, hj, rfl⟩ := mrange (lo := 0) (hi := 2) (n := 2) (by decide) (by decide) h1 h2
  by_cases h3 : i < 0
  · match j, hj with
    | 0, _ => exact b_text_0_lo i h3
    | 1, _ => exact b_text_1_lo i h3
    | 2, _ => exact b_text_2_lo i h3
  by_cases h4 : 0 < i
  · match j, hj with
    | 0, _ => exact b_text_0_hi i h4
    | 1, _ => exact b_text_1_hi i h4
    | 2, _ => exact b_text_2_hi i h4
  obtain ⟨q, hq, rfl⟩ := mrange (lo := 0) (hi := 0) (n := 0) (by decide) (by decide) h3 h4
  cases Nat.le_zero.mp hq
  exact mk_all k_text (Nat.lt_succ_of_le hj)
/-- every first call -/
theorem p1_case (xs : Nat → Int32) : mE (mcall 12) (some (4, xs)) 4 (mgd mLlaw mtL_law) 1000000 (18, [(3, .int 0), (2, .ref 47), (1, .ref 0), (0, .retAddr 1)], [], mh0) (fun r h' => r = some (.int 1) ∧ h'.1.length ≤ 600000 ∧ h'.2 ≤ 7302250) := by
  obtain ⟨j, hj, e⟩ := pk_andE (xs 0) (m := 31) 5 (by decide)
  match j, hj, e with
  | 0, _, e => exact g_0 xs e (b_house (xs 1) (xs 2))
  | 1, _, e => exact g_1 xs e (b_strip (xs 1) (xs 2) (xs 3))
  | 2, _, e => exact g_2 xs e (a_rain (xs 1) (xs 2))
  | 3, _, e => exact g_3 xs e (b_beasts (xs 1) (xs 2))
  | 4, _, e => exact g_4 xs e (b_sow (xs 1))
  | 5, _, e => exact g_5 xs e (b_reap (xs 1))
  | 6, _, e => exact g_6 xs e (a_week (xs 1))
  | 7, _, e => exact g_7 xs e (b_land (xs 1) (xs 2))
  | 8, _, e => exact g_8 xs e (b_hold (xs 1) (xs 2))
  | 9, _, e => exact g_9 xs e (b_hunger (xs 1))
  | 10, _, e => exact g_10 xs e (a_feed (xs 1) (xs 2))
  | 11, _, e => exact g_11 xs e (a_make (xs 1) (xs 2))
  | 12, _, e => exact g_12 xs e (mbothB_ok k_clear)
  | 13, _, e => exact g_13 xs e (b_law (xs 1) (xs 2) (xs 3))
  | 14, _, e => exact g_14 xs e (a_text (xs 1) (xs 2))
  | 15, _, e => exact g_15 xs e (b_stray (xs 1) (xs 2))
  | 16, _, e => exact g_16 xs e (b_book (xs 1) (xs 2))
  | 17, _, e => exact g_17 xs e (b_apart (xs 1))
  | 18, _, e => exact g_18 xs e (mbothB_ok k_court)
  | 19, _, e => exact g_19 xs e (b_swap (xs 1) (xs 2))
  | 20, _, e => exact g_20 xs e (mbothB_ok k_better)
  | 21, _, e => exact g_21 xs e (a_fewest (xs 1))
  | 22, _, e => exact g_22 xs e (a_count (xs 1))
  | 23, _, e => exact g_23 xs _ e (by decide)
  | 24, _, e => exact g_23 xs _ e (by decide)
  | 25, _, e => exact g_23 xs _ e (by decide)
  | 26, _, e => exact g_23 xs _ e (by decide)
  | 27, _, e => exact g_23 xs _ e (by decide)
  | 28, _, e => exact g_23 xs _ e (by decide)
  | 29, _, e => exact g_23 xs _ e (by decide)
  | 30, _, e => exact g_23 xs _ e (by decide)
  | 31, _, e => exact g_23 xs _ e (by decide)
  | n + 32, h, _ => exact absurd (show n + 32 < 32 from h) (by omega)
theorem p1_run (L : Nat) (hL : L ≤ 4) (xs : Nat → Int32) : ∃ h' : mS, mloop (mcall 12) (some (L, xs)) 4 (mgd mLlaw mtL_law) (1000000 + 10) 0 [(0, .retAddr 1)] [] ([], 0) = some (some (.int 1), h') ∧ h'.1.length ≤ 600000 ∧ h'.2 ≤ 7302250 := by
  have key : mE (mcall 12) (some (L, xs)) 4 (mgd mLlaw mtL_law) 1000000 (18, [(3, .int 0), (2, .ref 47), (1, .ref 0), (0, .retAddr 1)], [], mh0) (fun r h' => r = some (.int 1) ∧ h'.1.length ≤ 600000 ∧ h'.2 ≤ 7302250) := by
    match L, hL with
    | 0, _ => exact g_L0 xs
    | 1, _ => exact g_L1 xs
    | 2, _ => exact g_L2 xs
    | 3, _ => exact g_L3 xs
    | 4, _ => exact p1_case xs
  obtain ⟨r, h', h1, rfl, h2, h3⟩ := key
  refine ⟨h', ?_, h2, h3⟩
  rw [mloop_steps 10 (0, [(0, .retAddr 1)], [], ([], 0)) _ (msteps_scr _ _ _ mctor) 1000000]
  exact h1
/-- THE LAW, from its entry -/
theorem whole_start {p : Program} {e : Env} {s : State} {m : MethodId} {below : List Frame} {meth : Method} {c : Code} (l : Launch) {b L : Nat} {xs : Nat → Int32} (hL : L ≤ 4) (C0 : lw_At p s m meth c b L xs) : W p l e room_1 s m #[Value.ref b] below meth c s.heap [] 0 0 (lw_Z below #[Value.ref b] s) (entryFrame m ([Value.ref b] : List Value).toArray 4) := by
  obtain ⟨h', h1, h2, h3⟩ := p1_run L hL xs
  exact mlaw_ok l C0 hMs_all htab_law (by decide) h1 h2 h3
