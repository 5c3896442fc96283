/-! sums, products, tests over types -/
def aclip (lo hi : Int) : aV := if afits lo hi = true then (0, lo, hi) else a32
theorem aclip_ok {g : Nat → Int} {ρ : List Nat} {lo hi : Int} {x : Int32} {y : Int} (e : -2147483648 ≤ y → y ≤ 2147483647 → x.toInt = y) (h1 : lo ≤ y) (h2 : y ≤ hi) : hasT g ρ (aclip lo hi) (.int x) := by
  unfold aclip
  split
  · rename_i h
    have h3 := afits_ok h
    have := e (by omega) (by omega)
    exact ⟨x, rfl, by show lo ≤ x.toInt; omega, by show x.toInt ≤ hi; omega⟩
  · exact a32_ok _
/-- operation 0 +, 1 -, 2 *, 3 &, 6 max, 7 min, 8 %, else any -/
def aop (op : Nat) (p q : Int × Int) : aV := match op with
  | 0 => aclip (p.1 + q.1) (p.2 + q.2)
  | 1 => aclip (p.1 - q.2) (p.2 - q.1)
  | 2 => aclip (amin (amin (q.1 * p.1) (q.1 * p.2)) (amin (q.2 * p.1) (q.2 * p.2))) (amax (amax (q.1 * p.1) (q.1 * p.2)) (amax (q.2 * p.1) (q.2 * p.2)))
  | 3 => if 0 ≤ q.1 then (0, 0, q.2) else if 0 ≤ p.1 then (0, 0, p.2) else a32
  | 6 => (0, amax p.1 q.1, amax p.2 q.2)
  | 7 => (0, amin p.1 q.1, amin p.2 q.2)
  | 8 => if 0 ≤ p.1 ∧ 0 < q.1 then (0, 0, q.2 - 1) else a32
  | 11 => if q.1 = 0 ∧ q.2 = 0 then (0, p.1, p.2) else a32
  | _ => a32
def aopI (op : Nat) (x y : Int32) : Int32 := match op with
  | 0 => x + y
  | 1 => x - y
  | 2 => x * y
  | 3 => x &&& y
  | 4 => x ||| y
  | 5 => x ^^^ y
  | 6 => if x < y then y else x
  | 7 => if y < x then y else x
  | 8 => x - x / y * y
  | 9 => x / y
  | 10 => x <<< (y &&& 31)
  | 11 => x >>> (y &&& 31)
  | _ => (x.toUInt32 >>> (y.toUInt32 &&& Int32.toUInt32 31)).toInt32
theorem nonneg_nat {x : Int32} (h : 0 ≤ x.toInt) : x.toInt = (x.toBitVec.toNat : Int) := by
  have h1 : x.toInt = x.toBitVec.toInt := rfl
  rw [h1] at h ⊢
  rw [BitVec.toInt_eq_toNat_cond] at h ⊢
  split
  · rfl
  · rename_i hn
    rw [if_neg hn] at h
    have := x.toBitVec.isLt
    omega
theorem small_nonneg {x : Int32} (h : x.toBitVec.toNat < 2147483648) : x.toInt = (x.toBitVec.toNat : Int) := by
  have h1 : x.toInt = x.toBitVec.toInt := rfl
  rw [h1, BitVec.toInt_eq_toNat_cond, if_pos (by omega)]
theorem and_rng {x y : Int32} {d : Int} (h : 0 ≤ y.toInt) (h2 : y.toInt ≤ d) : 0 ≤ (x &&& y).toInt ∧ (x &&& y).toInt ≤ d := by
  have e := nonneg_nat h
  have e1 : (x &&& y).toBitVec.toNat = x.toBitVec.toNat &&& y.toBitVec.toNat := by rw [Int32.toBitVec_and, BitVec.toNat_and]
  have e2 : (x &&& y).toBitVec.toNat ≤ y.toBitVec.toNat := by rw [e1]; exact Nat.and_le_right
  have e3 : y.toInt < 2147483648 := Int32.toInt_lt y
  rw [small_nonneg (by omega)]
  omega
theorem rem_rng {x y : Int32} {d : Int} (h : 0 ≤ x.toInt) (h1 : 0 < y.toInt) (h2 : y.toInt ≤ d) : 0 ≤ (x - x / y * y).toInt ∧ (x - x / y * y).toInt ≤ d - 1 := by
  have hx := Int32.toInt_lt x
  have e0 : x.toInt.tdiv y.toInt = x.toInt / y.toInt := by rw [Int.tdiv_eq_ediv_of_nonneg h]
  have e1 : 0 ≤ x.toInt / y.toInt := Int.ediv_nonneg h (by omega)
  have e2 : x.toInt / y.toInt ≤ x.toInt := Int.ediv_le_self _ h
  have e3 : (x / y).toInt = x.toInt / y.toInt := by
    rw [Int32.toInt_div, e0]
    exact bmod_id (by omega) (by omega)
  have e4 : x.toInt / y.toInt * y.toInt ≤ x.toInt := Int.ediv_mul_le _ (by omega)
  have e5 : 0 ≤ x.toInt / y.toInt * y.toInt := Int.mul_nonneg e1 (by omega)
  have e6 : (x / y * y).toInt = x.toInt / y.toInt * y.toInt := by
    rw [mul_id (by rw [e3]; omega) (by rw [e3]; omega), e3]
  have e7 : x.toInt - x.toInt / y.toInt * y.toInt = x.toInt % y.toInt := by
    have := Int.mul_ediv_add_emod x.toInt y.toInt
    rw [Int.mul_comm] at this
    omega
  have e8 := Int.emod_lt_of_pos x.toInt h1
  rw [sub_id (by rw [e6]; omega) (by rw [e6]; omega), e6]
  omega
theorem aop_ok {g : Nat → Int} {ρ : List Nat} {op : Nat} {p q : Int × Int} {x y : Int32} (h1 : p.1 ≤ x.toInt) (h2 : x.toInt ≤ p.2) (h3 : q.1 ≤ y.toInt) (h4 : y.toInt ≤ q.2) : hasT g ρ (aop op p q) (.int (aopI op x y)) := by
  obtain ⟨a, b⟩ := p
  obtain ⟨c, d⟩ := q
  dsimp only at h1 h2 h3 h4
  unfold aop
  dsimp only
  split
  · exact aclip_ok (y := x.toInt + y.toInt) (fun e1 e2 => add_id e1 e2) (by omega) (by omega)
  · exact aclip_ok (y := x.toInt - y.toInt) (fun e1 e2 => sub_id e1 e2) (by omega) (by omega)
  · refine aclip_ok (y := x.toInt * y.toInt) (fun e1 e2 => mul_id e1 e2) ?_ ?_
    · have k1 := (mul_lo (c := x.toInt) h3 h4).1
      have k2 := (mul_lo (c := c) h1 h2).1
      have k3 := (mul_lo (c := d) h1 h2).1
      rw [Int.mul_comm x.toInt c, Int.mul_comm x.toInt d] at k1
      have m1 := @amin_le (amin (c * a) (c * b)) (amin (d * a) (d * b))
      have m2 : amin (amin (c * a) (c * b)) (amin (d * a) (d * b)) ≤ amin (c * x.toInt) (d * x.toInt) := by
        unfold amin at m1 k2 k3 ⊢
        (repeat' split) <;> (repeat' split at m1) <;> (repeat' split at k2) <;> (repeat' split at k3) <;> omega
      omega
    · have k1 := (mul_lo (c := x.toInt) h3 h4).2
      have k2 := (mul_lo (c := c) h1 h2).2
      have k3 := (mul_lo (c := d) h1 h2).2
      rw [Int.mul_comm x.toInt c, Int.mul_comm x.toInt d] at k1
      have m1 := @le_amax (amax (c * a) (c * b)) (amax (d * a) (d * b))
      have m2 : amax (c * x.toInt) (d * x.toInt) ≤ amax (amax (c * a) (c * b)) (amax (d * a) (d * b)) := by
        unfold amax at m1 k2 k3 ⊢
        (repeat' split) <;> (repeat' split at m1) <;> (repeat' split at k2) <;> (repeat' split at k3) <;> omega
      omega
  · split
    · rename_i h
      have := and_rng (x := x) (y := y) (d := d) (by omega) h4
      exact ⟨_, rfl, this.1, this.2⟩
    · split
      · rename_i h
        have := and_rng (x := y) (y := x) (d := b) (by omega) h2
        have e : aopI 3 x y = y &&& x := by show x &&& y = y &&& x; exact Int32.and_comm x y
        rw [e]
        exact ⟨_, rfl, this.1, this.2⟩
      · exact a32_ok _
  · refine ⟨_, rfl, ?_, ?_⟩
    all_goals
      simp only [aopI, amax, Int32.lt_iff_toInt_lt]
      (repeat' split) <;> omega
  · refine ⟨_, rfl, ?_, ?_⟩
    all_goals
      simp only [aopI, amin, Int32.lt_iff_toInt_lt]
      (repeat' split) <;> omega
  · split
    · rename_i h
      have := rem_rng (x := x) (y := y) (d := d) (by omega) (by omega) h4
      exact ⟨_, rfl, this.1, this.2⟩
    · exact a32_ok _
  · split
    · rename_i h
      have hy : y = 0 := Int32.toInt_inj.mp (by have e0 : (0 : Int32).toInt = 0 := by decide
                                                omega)
      subst hy
      have e : aopI 11 x 0 = x := by
        show x >>> ((0 : Int32) &&& 31) = x
        rw [show ((0 : Int32) &&& 31) = 0 by decide]
        simp
      rw [e]
      exact ⟨x, rfl, h1, h2⟩
    · exact a32_ok _
  · exact a32_ok _
/-- a sum or difference with a constant keeps what is told of a parameter -/
def abin (B : aB) (op : Nat) (s t : aV) : Option aV := match arng B s, arng B t with
  | some p, some q => some (if t.1 = 0 ∧ t.2.1 = t.2.2 ∧ op = 0 ∧ s.1 = 1 ∧ afits (p.1 + t.2.1) (p.2 + t.2.1) = true then (1, s.2.1, s.2.2 + t.2.1)
    else if t.1 = 0 ∧ t.2.1 = t.2.2 ∧ op = 1 ∧ s.1 = 1 ∧ afits (p.1 - t.2.1) (p.2 - t.2.1) = true then (1, s.2.1, s.2.2 - t.2.1)
    else if t.1 = 0 ∧ t.2.1 = t.2.2 ∧ op = 0 ∧ s.1 = 2 ∧ 0 ≤ t.2.1 ∧ afits (p.1 + t.2.1) (p.2 + t.2.1) = true then (2, s.2.1, s.2.2 + t.2.1)
    else aop op p q)
  | _, _ => none
theorem abin_ok {B : aB} {g : Nat → Int} {ρ : List Nat} {op : Nat} {s t r : aV} {v w : Value} (hg : okG B g) (h : abin B op s t = some r) (hv : hasT g ρ s v) (hw : hasT g ρ t w) : ∃ x y : Int32, v = .int x ∧ w = .int y ∧ hasT g ρ r (.int (aopI op x y)) := by
  unfold abin at h
  split at h
  · rename_i p q hp hq
    obtain ⟨x, rfl, h1, h2⟩ := arng_ok hg hp hv
    obtain ⟨y, rfl, h3, h4⟩ := arng_ok hg hq hw
    refine ⟨x, y, rfl, rfl, ?_⟩
    cases h
    split
    · rename_i hc
      obtain ⟨c1, c2, rfl, c4, c5⟩ := hc
      have c5 := afits_ok c5
      unfold hasT at hv hw
      rw [c4] at hv
      rw [c1] at hw
      obtain ⟨x', e, h5⟩ := hv
      cases e
      obtain ⟨y', e, h6, h7⟩ := hw
      cases e
      refine ⟨_, rfl, ?_⟩
      show (x + y).toInt = g s.2.1.toNat + (s.2.2 + t.2.1)
      rw [add_id (by omega) (by omega)]
      omega
    · split
      · rename_i hc
        obtain ⟨c1, c2, rfl, c4, c5⟩ := hc
        have c5 := afits_ok c5
        unfold hasT at hv hw
        rw [c4] at hv
        rw [c1] at hw
        obtain ⟨x', e, h5⟩ := hv
        cases e
        obtain ⟨y', e, h6, h7⟩ := hw
        cases e
        refine ⟨_, rfl, ?_⟩
        show (x - y).toInt = g s.2.1.toNat + (s.2.2 - t.2.1)
        rw [sub_id (by omega) (by omega)]
        omega
      · split
        · rename_i hc
          obtain ⟨c1, c2, rfl, c4, c6, c5⟩ := hc
          have c5 := afits_ok c5
          unfold hasT at hv hw
          rw [c4] at hv
          rw [c1] at hw
          obtain ⟨x', e, h5, h8⟩ := hv
          cases e
          obtain ⟨y', e, h6, h7⟩ := hw
          cases e
          have e9 : (x + y).toInt = x.toInt + y.toInt := add_id (by omega) (by omega)
          refine ⟨_, rfl, ?_, ?_⟩
          · show 0 ≤ (x + y).toInt; omega
          · show (x + y).toInt ≤ g s.2.1.toNat + (s.2.2 + t.2.1); omega
        · exact aop_ok h1 h2 h3 h4
  · cases h
/-- what a test tells: x + d ≤ y -/
def anl (B : aB) (d : Int) (s t : aV) : Option (aV × aV) := match arng B s, arng B t with
  | some p, some q => if q.2 < p.1 + d then none else some (
    (if (t.1 = 1 ∨ t.1 = 2) ∧ 0 ≤ p.1 then (2, t.2.1, t.2.2 - d) else if s.1 = 2 ∧ p.2 ≤ q.2 - d then s else (0, p.1, amin p.2 (q.2 - d))),
    (if t.1 = 2 ∨ t.1 = 1 then t else (0, amax q.1 (p.1 + d), q.2)))
  | _, _ => some (s, t)
theorem anl_ok {B : aB} {g : Nat → Int} {ρ : List Nat} {d : Int} {s t : aV} {x y : Int32} (hg : okG B g) (hv : hasT g ρ s (.int x)) (hw : hasT g ρ t (.int y)) (hc : x.toInt + d ≤ y.toInt) : ∃ q, anl B d s t = some q ∧ hasT g ρ q.1 (.int x) ∧ hasT g ρ q.2 (.int y) := by
  unfold anl
  split
  · rename_i p q hp hq
    obtain ⟨x', e, h1, h2⟩ := arng_ok hg hp hv
    cases e
    obtain ⟨y', e, h3, h4⟩ := arng_ok hg hq hw
    cases e
    rw [if_neg (by omega)]
    refine ⟨_, rfl, ?_, ?_⟩
    · dsimp only
      split
      · rename_i h
        obtain ⟨h, h0⟩ := h
        rcases h with h | h
        · unfold hasT at hw
          rw [h] at hw
          obtain ⟨y', e, h5⟩ := hw
          cases e
          exact ⟨x, rfl, by omega, by show x.toInt ≤ g t.2.1.toNat + (t.2.2 - d); omega⟩
        · unfold hasT at hw
          rw [h] at hw
          obtain ⟨y', e, h5, h6⟩ := hw
          cases e
          exact ⟨x, rfl, by omega, by show x.toInt ≤ g t.2.1.toNat + (t.2.2 - d); omega⟩
      · split
        · exact hv
        · refine ⟨x, rfl, h1, ?_⟩
          show x.toInt ≤ amin p.2 (q.2 - d)
          unfold amin
          split <;> omega
    · dsimp only
      split
      · exact hw
      · refine ⟨y, rfl, ?_, h4⟩
        show amax q.1 (p.1 + d) ≤ y.toInt
        unfold amax
        split <;> omega
  · exact ⟨_, rfl, hv, hw⟩
def ane (B : aB) (s t : aV) : Option (aV × aV) := match arng B s, arng B t with
  | some p, some q => if p.1 = p.2 ∧ q.1 = q.2 ∧ p.1 = q.1 then none else some (
    (if s.1 = 2 ∧ t.1 = 1 ∧ s.2.1 = t.2.1 ∧ s.2.2 = t.2.2 then (2, s.2.1, s.2.2 - 1) else if s.1 = 0 ∧ q.1 = q.2 ∧ p.1 = q.1 then (0, p.1 + 1, p.2) else if s.1 = 0 ∧ q.1 = q.2 ∧ p.2 = q.1 then (0, p.1, p.2 - 1) else s), t)
  | _, _ => some (s, t)
theorem ane_ok {B : aB} {g : Nat → Int} {ρ : List Nat} {s t : aV} {x y : Int32} (hg : okG B g) (hv : hasT g ρ s (.int x)) (hw : hasT g ρ t (.int y)) (hc : ¬ x.toInt = y.toInt) : ∃ q, ane B s t = some q ∧ hasT g ρ q.1 (.int x) ∧ hasT g ρ q.2 (.int y) := by
  unfold ane
  split
  · rename_i p q hp hq
    obtain ⟨x', e, h1, h2⟩ := arng_ok hg hp hv
    cases e
    obtain ⟨y', e, h3, h4⟩ := arng_ok hg hq hw
    cases e
    rw [if_neg (by omega)]
    refine ⟨_, rfl, ?_, hw⟩
    dsimp only
    split
    · rename_i h
      obtain ⟨k1, k2, k3, k4⟩ := h
      unfold hasT at hv hw
      rw [k1] at hv
      rw [k2] at hw
      obtain ⟨y', e, h5⟩ := hw
      cases e
      obtain ⟨x', e, h6, h7⟩ := hv
      cases e
      rw [← k3, ← k4] at h5
      exact ⟨x, rfl, h6, by show x.toInt ≤ g s.2.1.toNat + (s.2.2 - 1); omega⟩
    · split
      · rename_i h
        exact ⟨x, rfl, by show p.1 + 1 ≤ x.toInt; omega, h2⟩
      · split
        · rename_i h
          exact ⟨x, rfl, h1, by show x.toInt ≤ p.2 - 1; omega⟩
        · exact hv
  · exact ⟨_, rfl, hv, hw⟩
def aeq (B : aB) (s t : aV) : Option (aV × aV) := match arng B s, arng B t with
  | some p, some q => if q.2 < p.1 ∨ p.2 < q.1 then none else some ((if t.1 = 0 then (if s.1 = 0 then (0, amax p.1 q.1, amin p.2 q.2) else (if q.1 = q.2 then t else s)) else t), (if t.1 = 0 then (0, amax p.1 q.1, amin p.2 q.2) else t))
  | _, _ => some (s, t)
theorem aeq_ok {B : aB} {g : Nat → Int} {ρ : List Nat} {s t : aV} {x y : Int32} (hg : okG B g) (hv : hasT g ρ s (.int x)) (hw : hasT g ρ t (.int y)) (hc : x = y) : ∃ q, aeq B s t = some q ∧ hasT g ρ q.1 (.int x) ∧ hasT g ρ q.2 (.int y) := by
  subst hc
  unfold aeq
  split
  · rename_i p q hp hq
    obtain ⟨x', e, h1, h2⟩ := arng_ok hg hp hv
    cases e
    obtain ⟨y', e, h3, h4⟩ := arng_ok hg hq hw
    cases e
    rw [if_neg (by omega)]
    have hm : hasT g ρ (0, amax p.1 q.1, amin p.2 q.2) (.int x) := by
      refine ⟨x, rfl, ?_, ?_⟩
      · show amax p.1 q.1 ≤ x.toInt
        unfold amax; split <;> omega
      · show x.toInt ≤ amin p.2 q.2
        unfold amin; split <;> omega
    refine ⟨_, rfl, ?_, ?_⟩
    · dsimp only
      split
      · split
        · exact hm
        · split
          · exact hw
          · exact hv
      · exact hw
    · dsimp only
      split
      · exact hm
      · exact hw
  · exact ⟨_, rfl, hv, hw⟩
def aswp (q : Option (aV × aV)) : Option (aV × aV) := match q with | some q => some (q.2, q.1) | none => none
/-- what a comparison tells: 0 =, 1 not, 2 <, 3 ≥, 4 >, 5 ≤ -/
def anr (B : aB) (cd : Nat) (s t : aV) : Option (aV × aV) := match cd with
  | 0 => aeq B s t
  | 1 => ane B s t
  | 2 => anl B 1 s t
  | 3 => aswp (anl B 0 t s)
  | 4 => aswp (anl B 1 t s)
  | _ => anl B 0 s t
def acd (cd : Nat) (x y : Int32) : Prop := match cd with
  | 0 => x = y
  | 1 => ¬ x = y
  | 2 => x < y
  | 3 => y ≤ x
  | 4 => y < x
  | _ => x ≤ y
theorem anr_ok {B : aB} {g : Nat → Int} {ρ : List Nat} {cd : Nat} {s t : aV} {x y : Int32} (hg : okG B g) (hv : hasT g ρ s (.int x)) (hw : hasT g ρ t (.int y)) (hc : acd cd x y) : ∃ q, anr B cd s t = some q ∧ hasT g ρ q.1 (.int x) ∧ hasT g ρ q.2 (.int y) := by
  have sw : ∀ {d : Int}, y.toInt + d ≤ x.toInt → ∃ q, aswp (anl B d t s) = some q ∧ hasT g ρ q.1 (.int x) ∧ hasT g ρ q.2 (.int y) := by
    intro d h
    obtain ⟨q, h1, h2, h3⟩ := anl_ok hg hw hv h
    exact ⟨(q.2, q.1), by rw [h1]; rfl, h3, h2⟩
  unfold anr
  unfold acd at hc
  split
  · exact aeq_ok hg hv hw hc
  · exact ane_ok hg hv hw (fun e => hc (Int32.toInt_inj.mp e))
  · exact anl_ok hg hv hw (by have := Int32.lt_iff_toInt_lt.mp hc; omega)
  · exact sw (by have := Int32.le_iff_toInt_le.mp hc; omega)
  · exact sw (by have := Int32.lt_iff_toInt_lt.mp hc; omega)
  · rename_i h0 h1 h2 h3 h4
    have hc : x ≤ y := by
      revert hc
      split
      · exact absurd rfl (by assumption)
      · exact absurd rfl (by assumption)
      · exact absurd rfl (by assumption)
      · exact absurd rfl (by assumption)
      · exact absurd rfl (by assumption)
      · exact id
    exact anl_ok hg hv hw (by have := Int32.le_iff_toInt_le.mp hc; omega)
