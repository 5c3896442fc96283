set_option maxHeartbeats 4000000 in
set_option maxRecDepth 100000 in
theorem b_apart (v : Int32)  : mBoth 75 150 [.int v] := by
  apply mBoth_of
  refine mR_ix [(0, .ref 0), (1, .int v)] rfl rfl rfl ?_
  refine mE_ildn 1 rfl rfl rfl rfl ?_
  refine mE_ico 2 0 rfl rfl rfl ?_
  refine mE_bip 4 60 rfl rfl rfl ?_
  refine mE_cs [.int v, .int 0, .int 60] [] rfl rfl rfl rfl rfl ?_
  refine mR_ix [(0, .int v), (1, .int 0), (2, .int 60)] rfl rfl rfl ?_
  refine mE_ildn 1 rfl rfl rfl rfl ?_
  refine mE_ildn 2 rfl rfl rfl rfl ?_
  refine mE_ic_lt rfl (fun h11 => ?_) (fun h11 => ?_)
  ·
    have h11 : v < (0 : Int32) := h11
    refine mE_ico 15 0 rfl rfl rfl ?_
    refine mE_iret rfl ⟨rfl, ?_⟩
    refine mE_if_ne_f 10 rfl (by decide) rfl ?_
    refine mE_ico 11 (-1) rfl rfl rfl ?_
    refine mE_iret rfl ⟨rfl, ⟨_, mh_47⟩, ?_⟩
    refine mR_ix [(0, .ref 47), (1, .int v)] rfl rfl rfl ?_
    refine mE_ildn 1 rfl rfl rfl rfl ?_
    refine mE_ico 2 0 rfl rfl rfl ?_
    refine mE_bip 4 60 rfl rfl rfl ?_
    refine mE_cs [.int v, .int 0, .int 60] [] rfl rfl rfl rfl rfl ?_
    refine mR_ix [(0, .int v), (1, .int 0), (2, .int 60)] rfl rfl rfl ?_
    refine mE_ildn 1 rfl rfl rfl rfl ?_
    refine mE_ildn 2 rfl rfl rfl rfl ?_
    refine mE_ic_lt rfl (fun h12 => ?_) (fun h12 => ?_)
    ·
      have h12 : v < (0 : Int32) := h12
      refine mE_ico 15 0 rfl rfl rfl ?_
      refine mE_iret rfl ⟨rfl, ?_⟩
      refine mE_if_ne_f 10 rfl (by decide) rfl ?_
      refine mE_ico 11 (-1) rfl rfl rfl ?_
      exact mE_iret rfl ⟨rfl, _, rfl, rfl, Nat.le_of_ble_eq_true rfl, Nat.le_of_ble_eq_true rfl⟩
    ·
      have h12 : ¬ (v < (0 : Int32)) := h12
      exfalso
      simp only [Int32.not_le, Int32.not_lt, Int32.le_iff_toInt_le, Int32.lt_iff_toInt_lt, mi_m1, mi_0, mi_1, mi_2, mi_4, mi_7, mi_9, mi_19, mi_40, mi_60, mi_2000, mi_10000] at h11 h12
      all_goals omega
  ·
    have h11 : ¬ (v < (0 : Int32)) := h11
    refine mE_ildn 6 rfl rfl rfl rfl ?_
    refine mE_ildn 7 rfl rfl rfl rfl ?_
    refine mE_ic_gt rfl (fun h13 => ?_) (fun h13 => ?_)
    ·
      have h13 : (60 : Int32) < v := h13
      refine mE_ico 15 0 rfl rfl rfl ?_
      refine mE_iret rfl ⟨rfl, ?_⟩
      refine mE_if_ne_f 10 rfl (by decide) rfl ?_
      refine mE_ico 11 (-1) rfl rfl rfl ?_
      refine mE_iret rfl ⟨rfl, ⟨_, mh_47⟩, ?_⟩
      refine mR_ix [(0, .ref 47), (1, .int v)] rfl rfl rfl ?_
      refine mE_ildn 1 rfl rfl rfl rfl ?_
      refine mE_ico 2 0 rfl rfl rfl ?_
      refine mE_bip 4 60 rfl rfl rfl ?_
      refine mE_cs [.int v, .int 0, .int 60] [] rfl rfl rfl rfl rfl ?_
      refine mR_ix [(0, .int v), (1, .int 0), (2, .int 60)] rfl rfl rfl ?_
      refine mE_ildn 1 rfl rfl rfl rfl ?_
      refine mE_ildn 2 rfl rfl rfl rfl ?_
      refine mE_ic_lt rfl (fun h14 => ?_) (fun h14 => ?_)
      ·
        have h14 : v < (0 : Int32) := h14
        exfalso
        simp only [Int32.not_le, Int32.not_lt, Int32.le_iff_toInt_le, Int32.lt_iff_toInt_lt, mi_m1, mi_0, mi_1, mi_2, mi_4, mi_7, mi_9, mi_19, mi_40, mi_60, mi_2000, mi_10000] at h11 h13 h14
        all_goals omega
      ·
        have h14 : ¬ (v < (0 : Int32)) := h14
        refine mE_ildn 6 rfl rfl rfl rfl ?_
        refine mE_ildn 7 rfl rfl rfl rfl ?_
        refine mE_ic_gt rfl (fun h15 => ?_) (fun h15 => ?_)
        ·
          have h15 : (60 : Int32) < v := h15
          refine mE_ico 15 0 rfl rfl rfl ?_
          refine mE_iret rfl ⟨rfl, ?_⟩
          refine mE_if_ne_f 10 rfl (by decide) rfl ?_
          refine mE_ico 11 (-1) rfl rfl rfl ?_
          exact mE_iret rfl ⟨rfl, _, rfl, rfl, Nat.le_of_ble_eq_true rfl, Nat.le_of_ble_eq_true rfl⟩
        ·
          have h15 : ¬ ((60 : Int32) < v) := h15
          exfalso
          simp only [Int32.not_le, Int32.not_lt, Int32.le_iff_toInt_le, Int32.lt_iff_toInt_lt, mi_m1, mi_0, mi_1, mi_2, mi_4, mi_7, mi_9, mi_19, mi_40, mi_60, mi_2000, mi_10000] at h11 h13 h14 h15
          all_goals omega
    ·
      have h13 : ¬ ((60 : Int32) < v) := h13
      refine mE_ico 11 1 rfl rfl rfl ?_
      refine mE_goto 15 rfl rfl ?_
      refine mE_iret rfl ⟨rfl, ?_⟩
      refine mE_if_ne_t 12 rfl (by decide) rfl ?_
      refine mE_aldn 13 rfl rfl rfl rfl ?_
      refine mE_gf 16 rfl rfl mh_0 rfl rfl ?_
      refine mE_istn 17 [(2, .int 3), (0, .ref 0), (1, .int v)] rfl rfl rfl rfl ?_
      refine mE_aldn 18 rfl rfl rfl rfl ?_
      refine mE_ildn 19 rfl rfl rfl rfl ?_
      refine mE_pf 22 rfl mh_0 rfl rfl ?_
      refine mE_ildn 23 rfl rfl rfl rfl ?_
      refine mE_iret rfl ⟨rfl, ⟨_, (mg_ne rfl mh_47)⟩, ?_⟩
      refine mR_ix [(0, .ref 47), (1, .int v)] rfl rfl rfl ?_
      refine mE_ildn 1 rfl rfl rfl rfl ?_
      refine mE_ico 2 0 rfl rfl rfl ?_
      refine mE_bip 4 60 rfl rfl rfl ?_
      refine mE_cs [.int v, .int 0, .int 60] [] rfl rfl rfl rfl rfl ?_
      refine mR_ix [(0, .int v), (1, .int 0), (2, .int 60)] rfl rfl rfl ?_
      refine mE_ildn 1 rfl rfl rfl rfl ?_
      refine mE_ildn 2 rfl rfl rfl rfl ?_
      refine mE_ic_lt rfl (fun h16 => ?_) (fun h16 => ?_)
      ·
        have h16 : v < (0 : Int32) := h16
        exfalso
        simp only [Int32.not_le, Int32.not_lt, Int32.le_iff_toInt_le, Int32.lt_iff_toInt_lt, mi_m1, mi_0, mi_1, mi_2, mi_4, mi_7, mi_9, mi_19, mi_40, mi_60, mi_2000, mi_10000] at h11 h13 h16
        all_goals omega
      ·
        have h16 : ¬ (v < (0 : Int32)) := h16
        refine mE_ildn 6 rfl rfl rfl rfl ?_
        refine mE_ildn 7 rfl rfl rfl rfl ?_
        refine mE_ic_gt rfl (fun h17 => ?_) (fun h17 => ?_)
        ·
          have h17 : (60 : Int32) < v := h17
          exfalso
          simp only [Int32.not_le, Int32.not_lt, Int32.le_iff_toInt_le, Int32.lt_iff_toInt_lt, mi_m1, mi_0, mi_1, mi_2, mi_4, mi_7, mi_9, mi_19, mi_40, mi_60, mi_2000, mi_10000] at h11 h13 h16 h17
          all_goals omega
        ·
          have h17 : ¬ ((60 : Int32) < v) := h17
          refine mE_ico 11 1 rfl rfl rfl ?_
          refine mE_goto 15 rfl rfl ?_
          refine mE_iret rfl ⟨rfl, ?_⟩
          refine mE_if_ne_t 12 rfl (by decide) rfl ?_
          refine mE_aldn 13 rfl rfl rfl rfl ?_
          refine mE_gf 16 rfl rfl (mg_ne rfl mh_47) rfl rfl ?_
          refine mE_istn 17 [(2, .int 3), (0, .ref 47), (1, .int v)] rfl rfl rfl rfl ?_
          refine mE_aldn 18 rfl rfl rfl rfl ?_
          refine mE_ildn 19 rfl rfl rfl rfl ?_
          refine mE_pf 22 rfl (mg_ne rfl mh_47) rfl rfl ?_
          refine mE_ildn 23 rfl rfl rfl rfl ?_
          exact mE_iret rfl ⟨rfl, _, rfl, rfl, by simp only [List.length_set, List.length_append]; exact Nat.le_of_ble_eq_true rfl, Nat.le_of_ble_eq_true rfl⟩

set_option maxHeartbeats 4000000 in
set_option maxRecDepth 100000 in
theorem b_swap (a e : Int32)  : mBoth 77 155 [.int a, .int e] := by
  apply mBoth_of
  refine mR_ix [(0, .ref 0), (1, .int a), (2, .int e)] rfl rfl rfl ?_
  refine mE_aldn 1 rfl rfl rfl rfl ?_
  refine mE_ildn 2 rfl rfl rfl rfl ?_
  refine mE_cv [.int a] [] rfl rfl rfl rfl mh_0 rfl ?_
  refine mR_ix [(0, .ref 0), (1, .int a)] rfl rfl rfl ?_
  refine mE_ildn 1 rfl rfl rfl rfl ?_
  refine mE_ico 2 0 rfl rfl rfl ?_
  refine mE_aldn 3 rfl rfl rfl rfl ?_
  refine mE_gf 6 rfl rfl mh_0 rfl rfl ?_
  refine mE_ico 7 1 rfl rfl rfl ?_
  refine mE_isub 8 (-1) rfl rfl rfl ?_
  refine mE_cs [.int a, .int 0, .int (-1)] [] rfl rfl rfl rfl rfl ?_
  refine mR_ix [(0, .int a), (1, .int 0), (2, .int (-1))] rfl rfl rfl ?_
  refine mE_ildn 1 rfl rfl rfl rfl ?_
  refine mE_ildn 2 rfl rfl rfl rfl ?_
  refine mE_ic_lt rfl (fun h11 => ?_) (fun h11 => ?_)
  ·
    have h11 : a < (0 : Int32) := h11
    refine mE_ico 15 0 rfl rfl rfl ?_
    refine mE_iret rfl ⟨rfl, ?_⟩
    refine mE_iret rfl ⟨rfl, ?_⟩
    refine mE_if_eq_t 37 rfl (by decide) rfl ?_
    refine mE_ico 38 (-1) rfl rfl rfl ?_
    refine mE_iret rfl ⟨rfl, ⟨_, mh_47⟩, ?_⟩
    refine mR_ix [(0, .ref 47), (1, .int a), (2, .int e)] rfl rfl rfl ?_
    refine mE_aldn 1 rfl rfl rfl rfl ?_
    refine mE_ildn 2 rfl rfl rfl rfl ?_
    refine mE_cv [.int a] [] rfl rfl rfl rfl mh_47 rfl ?_
    refine mR_ix [(0, .ref 47), (1, .int a)] rfl rfl rfl ?_
    refine mE_ildn 1 rfl rfl rfl rfl ?_
    refine mE_if_lt rfl (fun h12 => ?_) (fun h12 => ?_)
    ·
      have h12 : a < (0 : Int32) := h12
      refine mE_ico 17 0 rfl rfl rfl ?_
      refine mE_iret rfl ⟨rfl, ?_⟩
      refine mE_if_eq_t 31 rfl (by decide) rfl ?_
      refine mE_ico 32 (-1) rfl rfl rfl ?_
      exact mE_iret rfl ⟨rfl, _, rfl, rfl, Nat.le_of_ble_eq_true rfl, Nat.le_of_ble_eq_true rfl⟩
    ·
      have h12 : ¬ (a < (0 : Int32)) := h12
      exfalso
      simp only [Int32.not_le, Int32.not_lt, Int32.le_iff_toInt_le, Int32.lt_iff_toInt_lt, mi_m1, mi_0, mi_1, mi_2, mi_4, mi_7, mi_9, mi_19, mi_40, mi_60, mi_2000, mi_10000] at h11 h12
      all_goals omega
  ·
    have h11 : ¬ (a < (0 : Int32)) := h11
    refine mE_ildn 6 rfl rfl rfl rfl ?_
    refine mE_ildn 7 rfl rfl rfl rfl ?_
    refine mE_ic_gt rfl (fun h13 => ?_) (fun h13 => ?_)
    ·
      have h13 : (-1 : Int32) < a := h13
      refine mE_ico 15 0 rfl rfl rfl ?_
      refine mE_iret rfl ⟨rfl, ?_⟩
      refine mE_iret rfl ⟨rfl, ?_⟩
      refine mE_if_eq_t 37 rfl (by decide) rfl ?_
      refine mE_ico 38 (-1) rfl rfl rfl ?_
      refine mE_iret rfl ⟨rfl, ⟨_, mh_47⟩, ?_⟩
      refine mR_ix [(0, .ref 47), (1, .int a), (2, .int e)] rfl rfl rfl ?_
      refine mE_aldn 1 rfl rfl rfl rfl ?_
      refine mE_ildn 2 rfl rfl rfl rfl ?_
      refine mE_cv [.int a] [] rfl rfl rfl rfl mh_47 rfl ?_
      refine mR_ix [(0, .ref 47), (1, .int a)] rfl rfl rfl ?_
      refine mE_ildn 1 rfl rfl rfl rfl ?_
      refine mE_if_lt rfl (fun h14 => ?_) (fun h14 => ?_)
      ·
        have h14 : a < (0 : Int32) := h14
        exfalso
        simp only [Int32.not_le, Int32.not_lt, Int32.le_iff_toInt_le, Int32.lt_iff_toInt_lt, mi_m1, mi_0, mi_1, mi_2, mi_4, mi_7, mi_9, mi_19, mi_40, mi_60, mi_2000, mi_10000] at h11 h13 h14
        all_goals omega
      ·
        have h14 : ¬ (a < (0 : Int32)) := h14
        refine mE_ildn 5 rfl rfl rfl rfl ?_
        refine mE_aldn 6 rfl rfl rfl rfl ?_
        refine mE_gf 9 rfl rfl mh_47 rfl rfl ?_
        refine mE_ic_ge rfl (fun h15 => ?_) (fun h15 => ?_)
        ·
          have h15 : (0 : Int32) ≤ a := h15
          refine mE_ico 17 0 rfl rfl rfl ?_
          refine mE_iret rfl ⟨rfl, ?_⟩
          refine mE_if_eq_t 31 rfl (by decide) rfl ?_
          refine mE_ico 32 (-1) rfl rfl rfl ?_
          exact mE_iret rfl ⟨rfl, _, rfl, rfl, Nat.le_of_ble_eq_true rfl, Nat.le_of_ble_eq_true rfl⟩
        ·
          have h15 : ¬ ((0 : Int32) ≤ a) := h15
          exfalso
          simp only [Int32.not_le, Int32.not_lt, Int32.le_iff_toInt_le, Int32.lt_iff_toInt_lt, mi_m1, mi_0, mi_1, mi_2, mi_4, mi_7, mi_9, mi_19, mi_40, mi_60, mi_2000, mi_10000] at h11 h13 h14 h15
          all_goals omega
    ·
      have h13 : ¬ ((-1 : Int32) < a) := h13
      exfalso
      simp only [Int32.not_le, Int32.not_lt, Int32.le_iff_toInt_le, Int32.lt_iff_toInt_lt, mi_m1, mi_0, mi_1, mi_2, mi_4, mi_7, mi_9, mi_19, mi_40, mi_60, mi_2000, mi_10000] at h11 h13
      all_goals omega

set_option maxHeartbeats 4000000 in
set_option maxRecDepth 100000 in
theorem b_week_lo (n : Int32) (h0 : n < (1 : Int32)) : mBoth 64 141 [.int n] := by
  apply mBoth_of
  refine mR_ix [(0, .ref 0), (1, .int n)] rfl rfl rfl ?_
  refine mE_ildn 1 rfl rfl rfl rfl ?_
  refine mE_ico 2 1 rfl rfl rfl ?_
  refine mE_bip 4 40 rfl rfl rfl ?_
  refine mE_cs [.int n, .int 1, .int 40] [] rfl rfl rfl rfl rfl ?_
  refine mR_ix [(0, .int n), (1, .int 1), (2, .int 40)] rfl rfl rfl ?_
  refine mE_ildn 1 rfl rfl rfl rfl ?_
  refine mE_ildn 2 rfl rfl rfl rfl ?_
  refine mE_ic_lt rfl (fun h11 => ?_) (fun h11 => ?_)
  ·
    have h11 : n < (1 : Int32) := h11
    refine mE_ico 15 0 rfl rfl rfl ?_
    refine mE_iret rfl ⟨rfl, ?_⟩
    refine mE_if_eq_t 22 rfl (by decide) rfl ?_
    refine mE_ico 23 (-1) rfl rfl rfl ?_
    refine mE_iret rfl ⟨rfl, ⟨_, mh_47⟩, ?_⟩
    refine mR_ix [(0, .ref 47), (1, .int n)] rfl rfl rfl ?_
    refine mE_ildn 1 rfl rfl rfl rfl ?_
    refine mE_ico 2 1 rfl rfl rfl ?_
    refine mE_bip 4 40 rfl rfl rfl ?_
    refine mE_cs [.int n, .int 1, .int 40] [] rfl rfl rfl rfl rfl ?_
    refine mR_ix [(0, .int n), (1, .int 1), (2, .int 40)] rfl rfl rfl ?_
    refine mE_ildn 1 rfl rfl rfl rfl ?_
    refine mE_ildn 2 rfl rfl rfl rfl ?_
    refine mE_ic_lt rfl (fun h12 => ?_) (fun h12 => ?_)
    ·
      have h12 : n < (1 : Int32) := h12
      refine mE_ico 15 0 rfl rfl rfl ?_
      refine mE_iret rfl ⟨rfl, ?_⟩
      refine mE_if_eq_t 22 rfl (by decide) rfl ?_
      refine mE_ico 23 (-1) rfl rfl rfl ?_
      exact mE_iret rfl ⟨rfl, _, rfl, rfl, Nat.le_of_ble_eq_true rfl, Nat.le_of_ble_eq_true rfl⟩
    ·
      have h12 : ¬ (n < (1 : Int32)) := h12
      exfalso
      simp only [Int32.not_le, Int32.not_lt, Int32.le_iff_toInt_le, Int32.lt_iff_toInt_lt, mi_m1, mi_0, mi_1, mi_2, mi_4, mi_7, mi_9, mi_19, mi_40, mi_60, mi_2000, mi_10000] at h0 h11 h12
      all_goals omega
  ·
    have h11 : ¬ (n < (1 : Int32)) := h11
    exfalso
    simp only [Int32.not_le, Int32.not_lt, Int32.le_iff_toInt_le, Int32.lt_iff_toInt_lt, mi_m1, mi_0, mi_1, mi_2, mi_4, mi_7, mi_9, mi_19, mi_40, mi_60, mi_2000, mi_10000] at h0 h11
    all_goals omega

set_option maxHeartbeats 4000000 in
set_option maxRecDepth 100000 in
theorem b_week_hi (n : Int32) (h0 : (40 : Int32) < n) : mBoth 64 141 [.int n] := by
  apply mBoth_of
  refine mR_ix [(0, .ref 0), (1, .int n)] rfl rfl rfl ?_
  refine mE_ildn 1 rfl rfl rfl rfl ?_
  refine mE_ico 2 1 rfl rfl rfl ?_
  refine mE_bip 4 40 rfl rfl rfl ?_
  refine mE_cs [.int n, .int 1, .int 40] [] rfl rfl rfl rfl rfl ?_
  refine mR_ix [(0, .int n), (1, .int 1), (2, .int 40)] rfl rfl rfl ?_
  refine mE_ildn 1 rfl rfl rfl rfl ?_
  refine mE_ildn 2 rfl rfl rfl rfl ?_
  refine mE_ic_lt rfl (fun h11 => ?_) (fun h11 => ?_)
  ·
    have h11 : n < (1 : Int32) := h11
    exfalso
    simp only [Int32.not_le, Int32.not_lt, Int32.le_iff_toInt_le, Int32.lt_iff_toInt_lt, mi_m1, mi_0, mi_1, mi_2, mi_4, mi_7, mi_9, mi_19, mi_40, mi_60, mi_2000, mi_10000] at h0 h11
    all_goals omega
  ·
    have h11 : ¬ (n < (1 : Int32)) := h11
    refine mE_ildn 6 rfl rfl rfl rfl ?_
    refine mE_ildn 7 rfl rfl rfl rfl ?_
    refine mE_ic_gt rfl (fun h12 => ?_) (fun h12 => ?_)
    ·
      have h12 : (40 : Int32) < n := h12
      refine mE_ico 15 0 rfl rfl rfl ?_
      refine mE_iret rfl ⟨rfl, ?_⟩
      refine mE_if_eq_t 22 rfl (by decide) rfl ?_
      refine mE_ico 23 (-1) rfl rfl rfl ?_
      refine mE_iret rfl ⟨rfl, ⟨_, mh_47⟩, ?_⟩
      refine mR_ix [(0, .ref 47), (1, .int n)] rfl rfl rfl ?_
      refine mE_ildn 1 rfl rfl rfl rfl ?_
      refine mE_ico 2 1 rfl rfl rfl ?_
      refine mE_bip 4 40 rfl rfl rfl ?_
      refine mE_cs [.int n, .int 1, .int 40] [] rfl rfl rfl rfl rfl ?_
      refine mR_ix [(0, .int n), (1, .int 1), (2, .int 40)] rfl rfl rfl ?_
      refine mE_ildn 1 rfl rfl rfl rfl ?_
      refine mE_ildn 2 rfl rfl rfl rfl ?_
      refine mE_ic_lt rfl (fun h13 => ?_) (fun h13 => ?_)
      ·
        have h13 : n < (1 : Int32) := h13
        exfalso
        simp only [Int32.not_le, Int32.not_lt, Int32.le_iff_toInt_le, Int32.lt_iff_toInt_lt, mi_m1, mi_0, mi_1, mi_2, mi_4, mi_7, mi_9, mi_19, mi_40, mi_60, mi_2000, mi_10000] at h0 h11 h12 h13
        all_goals omega
      ·
        have h13 : ¬ (n < (1 : Int32)) := h13
        refine mE_ildn 6 rfl rfl rfl rfl ?_
        refine mE_ildn 7 rfl rfl rfl rfl ?_
        refine mE_ic_gt rfl (fun h14 => ?_) (fun h14 => ?_)
        ·
          have h14 : (40 : Int32) < n := h14
          refine mE_ico 15 0 rfl rfl rfl ?_
          refine mE_iret rfl ⟨rfl, ?_⟩
          refine mE_if_eq_t 22 rfl (by decide) rfl ?_
          refine mE_ico 23 (-1) rfl rfl rfl ?_
          exact mE_iret rfl ⟨rfl, _, rfl, rfl, Nat.le_of_ble_eq_true rfl, Nat.le_of_ble_eq_true rfl⟩
        ·
          have h14 : ¬ ((40 : Int32) < n) := h14
          exfalso
          simp only [Int32.not_le, Int32.not_lt, Int32.le_iff_toInt_le, Int32.lt_iff_toInt_lt, mi_m1, mi_0, mi_1, mi_2, mi_4, mi_7, mi_9, mi_19, mi_40, mi_60, mi_2000, mi_10000] at h0 h11 h12 h13 h14
          all_goals omega
    ·
      have h12 : ¬ ((40 : Int32) < n) := h12
      exfalso
      simp only [Int32.not_le, Int32.not_lt, Int32.le_iff_toInt_le, Int32.lt_iff_toInt_lt, mi_m1, mi_0, mi_1, mi_2, mi_4, mi_7, mi_9, mi_19, mi_40, mi_60, mi_2000, mi_10000] at h0 h11 h12
      all_goals omega

set_option maxHeartbeats 4000000 in
set_option maxRecDepth 100000 in
theorem b_fewest_lo (f : Int32) (h0 : f < (0 : Int32)) : mBoth 79 159 [.int f] := by
  apply mBoth_of
  refine mR_ix [(0, .ref 0), (1, .int f)] rfl rfl rfl ?_
  refine mE_ildn 1 rfl rfl rfl rfl ?_
  refine mE_ico 2 0 rfl rfl rfl ?_
  refine mE_ico 3 2 rfl rfl rfl ?_
  refine mE_cs [.int f, .int 0, .int 2] [] rfl rfl rfl rfl rfl ?_
  refine mR_ix [(0, .int f), (1, .int 0), (2, .int 2)] rfl rfl rfl ?_
  refine mE_ildn 1 rfl rfl rfl rfl ?_
  refine mE_ildn 2 rfl rfl rfl rfl ?_
  refine mE_ic_lt rfl (fun h11 => ?_) (fun h11 => ?_)
  ·
    have h11 : f < (0 : Int32) := h11
    refine mE_ico 15 0 rfl rfl rfl ?_
    refine mE_iret rfl ⟨rfl, ?_⟩
    refine mE_if_ne_f 9 rfl (by decide) rfl ?_
    refine mE_ico 10 (-1) rfl rfl rfl ?_
    refine mE_iret rfl ⟨rfl, ⟨_, mh_47⟩, ?_⟩
    refine mR_ix [(0, .ref 47), (1, .int f)] rfl rfl rfl ?_
    refine mE_ildn 1 rfl rfl rfl rfl ?_
    refine mE_ico 2 0 rfl rfl rfl ?_
    refine mE_ico 3 2 rfl rfl rfl ?_
    refine mE_cs [.int f, .int 0, .int 2] [] rfl rfl rfl rfl rfl ?_
    refine mR_ix [(0, .int f), (1, .int 0), (2, .int 2)] rfl rfl rfl ?_
    refine mE_ildn 1 rfl rfl rfl rfl ?_
    refine mE_ildn 2 rfl rfl rfl rfl ?_
    refine mE_ic_lt rfl (fun h12 => ?_) (fun h12 => ?_)
    ·
      have h12 : f < (0 : Int32) := h12
      refine mE_ico 15 0 rfl rfl rfl ?_
      refine mE_iret rfl ⟨rfl, ?_⟩
      refine mE_if_ne_f 9 rfl (by decide) rfl ?_
      refine mE_ico 10 (-1) rfl rfl rfl ?_
      exact mE_iret rfl ⟨rfl, _, rfl, rfl, Nat.le_of_ble_eq_true rfl, Nat.le_of_ble_eq_true rfl⟩
    ·
      have h12 : ¬ (f < (0 : Int32)) := h12
      exfalso
      simp only [Int32.not_le, Int32.not_lt, Int32.le_iff_toInt_le, Int32.lt_iff_toInt_lt, mi_m1, mi_0, mi_1, mi_2, mi_4, mi_7, mi_9, mi_19, mi_40, mi_60, mi_2000, mi_10000] at h0 h11 h12
      all_goals omega
  ·
    have h11 : ¬ (f < (0 : Int32)) := h11
    exfalso
    simp only [Int32.not_le, Int32.not_lt, Int32.le_iff_toInt_le, Int32.lt_iff_toInt_lt, mi_m1, mi_0, mi_1, mi_2, mi_4, mi_7, mi_9, mi_19, mi_40, mi_60, mi_2000, mi_10000] at h0 h11
    all_goals omega

set_option maxHeartbeats 4000000 in
set_option maxRecDepth 100000 in
theorem b_fewest_hi (f : Int32) (h0 : (2 : Int32) < f) : mBoth 79 159 [.int f] := by
  apply mBoth_of
  refine mR_ix [(0, .ref 0), (1, .int f)] rfl rfl rfl ?_
  refine mE_ildn 1 rfl rfl rfl rfl ?_
  refine mE_ico 2 0 rfl rfl rfl ?_
  refine mE_ico 3 2 rfl rfl rfl ?_
  refine mE_cs [.int f, .int 0, .int 2] [] rfl rfl rfl rfl rfl ?_
  refine mR_ix [(0, .int f), (1, .int 0), (2, .int 2)] rfl rfl rfl ?_
  refine mE_ildn 1 rfl rfl rfl rfl ?_
  refine mE_ildn 2 rfl rfl rfl rfl ?_
  refine mE_ic_lt rfl (fun h11 => ?_) (fun h11 => ?_)
  ·
    have h11 : f < (0 : Int32) := h11
    exfalso
    simp only [Int32.not_le, Int32.not_lt, Int32.le_iff_toInt_le, Int32.lt_iff_toInt_lt, mi_m1, mi_0, mi_1, mi_2, mi_4, mi_7, mi_9, mi_19, mi_40, mi_60, mi_2000, mi_10000] at h0 h11
    all_goals omega
  ·
    have h11 : ¬ (f < (0 : Int32)) := h11
    refine mE_ildn 6 rfl rfl rfl rfl ?_
    refine mE_ildn 7 rfl rfl rfl rfl ?_
    refine mE_ic_gt rfl (fun h12 => ?_) (fun h12 => ?_)
    ·
      have h12 : (2 : Int32) < f := h12
      refine mE_ico 15 0 rfl rfl rfl ?_
      refine mE_iret rfl ⟨rfl, ?_⟩
      refine mE_if_ne_f 9 rfl (by decide) rfl ?_
      refine mE_ico 10 (-1) rfl rfl rfl ?_
      refine mE_iret rfl ⟨rfl, ⟨_, mh_47⟩, ?_⟩
      refine mR_ix [(0, .ref 47), (1, .int f)] rfl rfl rfl ?_
      refine mE_ildn 1 rfl rfl rfl rfl ?_
      refine mE_ico 2 0 rfl rfl rfl ?_
      refine mE_ico 3 2 rfl rfl rfl ?_
      refine mE_cs [.int f, .int 0, .int 2] [] rfl rfl rfl rfl rfl ?_
      refine mR_ix [(0, .int f), (1, .int 0), (2, .int 2)] rfl rfl rfl ?_
      refine mE_ildn 1 rfl rfl rfl rfl ?_
      refine mE_ildn 2 rfl rfl rfl rfl ?_
      refine mE_ic_lt rfl (fun h13 => ?_) (fun h13 => ?_)
      ·
        have h13 : f < (0 : Int32) := h13
        exfalso
        simp only [Int32.not_le, Int32.not_lt, Int32.le_iff_toInt_le, Int32.lt_iff_toInt_lt, mi_m1, mi_0, mi_1, mi_2, mi_4, mi_7, mi_9, mi_19, mi_40, mi_60, mi_2000, mi_10000] at h0 h11 h12 h13
        all_goals omega
      ·
        have h13 : ¬ (f < (0 : Int32)) := h13
        refine mE_ildn 6 rfl rfl rfl rfl ?_
        refine mE_ildn 7 rfl rfl rfl rfl ?_
        refine mE_ic_gt rfl (fun h14 => ?_) (fun h14 => ?_)
        ·
          have h14 : (2 : Int32) < f := h14
          refine mE_ico 15 0 rfl rfl rfl ?_
          refine mE_iret rfl ⟨rfl, ?_⟩
          refine mE_if_ne_f 9 rfl (by decide) rfl ?_
          refine mE_ico 10 (-1) rfl rfl rfl ?_
          exact mE_iret rfl ⟨rfl, _, rfl, rfl, Nat.le_of_ble_eq_true rfl, Nat.le_of_ble_eq_true rfl⟩
        ·
          have h14 : ¬ ((2 : Int32) < f) := h14
          exfalso
          simp only [Int32.not_le, Int32.not_lt, Int32.le_iff_toInt_le, Int32.lt_iff_toInt_lt, mi_m1, mi_0, mi_1, mi_2, mi_4, mi_7, mi_9, mi_19, mi_40, mi_60, mi_2000, mi_10000] at h0 h11 h12 h13 h14
          all_goals omega
    ·
      have h12 : ¬ ((2 : Int32) < f) := h12
      exfalso
      simp only [Int32.not_le, Int32.not_lt, Int32.le_iff_toInt_le, Int32.lt_iff_toInt_lt, mi_m1, mi_0, mi_1, mi_2, mi_4, mi_7, mi_9, mi_19, mi_40, mi_60, mi_2000, mi_10000] at h0 h11 h12
      all_goals omega

set_option maxHeartbeats 4000000 in
set_option maxRecDepth 100000 in
theorem b_count_lo (w : Int32) (h0 : w < (0 : Int32)) : mBoth 80 160 [.int w] := by
  apply mBoth_of
  refine mR_ix [(0, .ref 0), (1, .int w)] rfl rfl rfl ?_
  refine mE_ildn 1 rfl rfl rfl rfl ?_
  refine mE_tsw0 94 rfl (by
      simp only [Int32.not_le, Int32.not_lt, Int32.le_iff_toInt_le, Int32.lt_iff_toInt_lt, mi_m1, mi_0, mi_1, mi_2, mi_4, mi_7, mi_9, mi_19, mi_40, mi_60, mi_2000, mi_10000] at h0
      omega) (by decide) rfl ?_
  refine mE_ico 95 (-1) rfl rfl rfl ?_
  refine mE_iret rfl ⟨rfl, ⟨_, mh_47⟩, ?_⟩
  refine mR_ix [(0, .ref 47), (1, .int w)] rfl rfl rfl ?_
  refine mE_ico 1 0 rfl rfl rfl ?_
  refine mE_istn 2 [(2, .int 0), (0, .ref 47), (1, .int w)] rfl rfl rfl rfl ?_
  refine mE_ildn 3 rfl rfl rfl rfl ?_
  refine mE_tsw0 112 rfl (by
      simp only [Int32.not_le, Int32.not_lt, Int32.le_iff_toInt_le, Int32.lt_iff_toInt_lt, mi_m1, mi_0, mi_1, mi_2, mi_4, mi_7, mi_9, mi_19, mi_40, mi_60, mi_2000, mi_10000] at h0
      omega) (by decide) rfl ?_
  refine mE_ico 113 (-1) rfl rfl rfl ?_
  exact mE_iret rfl ⟨rfl, _, rfl, rfl, Nat.le_of_ble_eq_true rfl, Nat.le_of_ble_eq_true rfl⟩

set_option maxHeartbeats 4000000 in
set_option maxRecDepth 100000 in
theorem b_count_hi (w : Int32) (h0 : (7 : Int32) < w) : mBoth 80 160 [.int w] := by
  apply mBoth_of
  refine mR_ix [(0, .ref 0), (1, .int w)] rfl rfl rfl ?_
  refine mE_ildn 1 rfl rfl rfl rfl ?_
  refine mE_tsw0 94 rfl (by
      simp only [Int32.not_le, Int32.not_lt, Int32.le_iff_toInt_le, Int32.lt_iff_toInt_lt, mi_m1, mi_0, mi_1, mi_2, mi_4, mi_7, mi_9, mi_19, mi_40, mi_60, mi_2000, mi_10000] at h0
      omega) (by decide) rfl ?_
  refine mE_ico 95 (-1) rfl rfl rfl ?_
  refine mE_iret rfl ⟨rfl, ⟨_, mh_47⟩, ?_⟩
  refine mR_ix [(0, .ref 47), (1, .int w)] rfl rfl rfl ?_
  refine mE_ico 1 0 rfl rfl rfl ?_
  refine mE_istn 2 [(2, .int 0), (0, .ref 47), (1, .int w)] rfl rfl rfl rfl ?_
  refine mE_ildn 3 rfl rfl rfl rfl ?_
  refine mE_tsw0 112 rfl (by
      simp only [Int32.not_le, Int32.not_lt, Int32.le_iff_toInt_le, Int32.lt_iff_toInt_lt, mi_m1, mi_0, mi_1, mi_2, mi_4, mi_7, mi_9, mi_19, mi_40, mi_60, mi_2000, mi_10000] at h0
      omega) (by decide) rfl ?_
  refine mE_ico 113 (-1) rfl rfl rfl ?_
  exact mE_iret rfl ⟨rfl, _, rfl, rfl, Nat.le_of_ble_eq_true rfl, Nat.le_of_ble_eq_true rfl⟩

set_option maxHeartbeats 4000000 in
set_option maxRecDepth 100000 in
theorem b_rain_lo (w r : Int32) (h0 : w < (0 : Int32)) : mBoth 60 130 [.int w, .int r] := by
  apply mBoth_of
  refine mR_ix [(0, .ref 0), (1, .int w), (2, .int r)] rfl rfl rfl ?_
  refine mE_ildn 1 rfl rfl rfl rfl ?_
  refine mE_ico 2 0 rfl rfl rfl ?_
  refine mE_bip 4 19 rfl rfl rfl ?_
  refine mE_cs [.int w, .int 0, .int 19] [] rfl rfl rfl rfl rfl ?_
  refine mR_ix [(0, .int w), (1, .int 0), (2, .int 19)] rfl rfl rfl ?_
  refine mE_ildn 1 rfl rfl rfl rfl ?_
  refine mE_ildn 2 rfl rfl rfl rfl ?_
  refine mE_ic_lt rfl (fun h11 => ?_) (fun h11 => ?_)
  ·
    have h11 : w < (0 : Int32) := h11
    refine mE_ico 15 0 rfl rfl rfl ?_
    refine mE_iret rfl ⟨rfl, ?_⟩
    refine mE_if_eq_t 20 rfl (by decide) rfl ?_
    refine mE_ico 21 (-1) rfl rfl rfl ?_
    refine mE_iret rfl ⟨rfl, ⟨_, mh_47⟩, ?_⟩
    refine mR_ix [(0, .ref 47), (1, .int w), (2, .int r)] rfl rfl rfl ?_
    refine mE_ildn 1 rfl rfl rfl rfl ?_
    refine mE_ico 2 0 rfl rfl rfl ?_
    refine mE_bip 4 19 rfl rfl rfl ?_
    refine mE_cs [.int w, .int 0, .int 19] [] rfl rfl rfl rfl rfl ?_
    refine mR_ix [(0, .int w), (1, .int 0), (2, .int 19)] rfl rfl rfl ?_
    refine mE_ildn 1 rfl rfl rfl rfl ?_
    refine mE_ildn 2 rfl rfl rfl rfl ?_
    refine mE_ic_lt rfl (fun h12 => ?_) (fun h12 => ?_)
    ·
      have h12 : w < (0 : Int32) := h12
      refine mE_ico 15 0 rfl rfl rfl ?_
      refine mE_iret rfl ⟨rfl, ?_⟩
      refine mE_if_eq_t 20 rfl (by decide) rfl ?_
      refine mE_ico 21 (-1) rfl rfl rfl ?_
      exact mE_iret rfl ⟨rfl, _, rfl, rfl, Nat.le_of_ble_eq_true rfl, Nat.le_of_ble_eq_true rfl⟩
    ·
      have h12 : ¬ (w < (0 : Int32)) := h12
      exfalso
      simp only [Int32.not_le, Int32.not_lt, Int32.le_iff_toInt_le, Int32.lt_iff_toInt_lt, mi_m1, mi_0, mi_1, mi_2, mi_4, mi_7, mi_9, mi_19, mi_40, mi_60, mi_2000, mi_10000] at h0 h11 h12
      all_goals omega
  ·
    have h11 : ¬ (w < (0 : Int32)) := h11
    exfalso
    simp only [Int32.not_le, Int32.not_lt, Int32.le_iff_toInt_le, Int32.lt_iff_toInt_lt, mi_m1, mi_0, mi_1, mi_2, mi_4, mi_7, mi_9, mi_19, mi_40, mi_60, mi_2000, mi_10000] at h0 h11
    all_goals omega

set_option maxHeartbeats 4000000 in
set_option maxRecDepth 100000 in
theorem b_rain_hi (w r : Int32) (h0 : (19 : Int32) < w) : mBoth 60 130 [.int w, .int r] := by
  apply mBoth_of
  refine mR_ix [(0, .ref 0), (1, .int w), (2, .int r)] rfl rfl rfl ?_
  refine mE_ildn 1 rfl rfl rfl rfl ?_
  refine mE_ico 2 0 rfl rfl rfl ?_
  refine mE_bip 4 19 rfl rfl rfl ?_
  refine mE_cs [.int w, .int 0, .int 19] [] rfl rfl rfl rfl rfl ?_
  refine mR_ix [(0, .int w), (1, .int 0), (2, .int 19)] rfl rfl rfl ?_
  refine mE_ildn 1 rfl rfl rfl rfl ?_
  refine mE_ildn 2 rfl rfl rfl rfl ?_
  refine mE_ic_lt rfl (fun h11 => ?_) (fun h11 => ?_)
  ·
    have h11 : w < (0 : Int32) := h11
    exfalso
    simp only [Int32.not_le, Int32.not_lt, Int32.le_iff_toInt_le, Int32.lt_iff_toInt_lt, mi_m1, mi_0, mi_1, mi_2, mi_4, mi_7, mi_9, mi_19, mi_40, mi_60, mi_2000, mi_10000] at h0 h11
    all_goals omega
  ·
    have h11 : ¬ (w < (0 : Int32)) := h11
    refine mE_ildn 6 rfl rfl rfl rfl ?_
    refine mE_ildn 7 rfl rfl rfl rfl ?_
    refine mE_ic_gt rfl (fun h12 => ?_) (fun h12 => ?_)
    ·
      have h12 : (19 : Int32) < w := h12
      refine mE_ico 15 0 rfl rfl rfl ?_
      refine mE_iret rfl ⟨rfl, ?_⟩
      refine mE_if_eq_t 20 rfl (by decide) rfl ?_
      refine mE_ico 21 (-1) rfl rfl rfl ?_
      refine mE_iret rfl ⟨rfl, ⟨_, mh_47⟩, ?_⟩
      refine mR_ix [(0, .ref 47), (1, .int w), (2, .int r)] rfl rfl rfl ?_
      refine mE_ildn 1 rfl rfl rfl rfl ?_
      refine mE_ico 2 0 rfl rfl rfl ?_
      refine mE_bip 4 19 rfl rfl rfl ?_
      refine mE_cs [.int w, .int 0, .int 19] [] rfl rfl rfl rfl rfl ?_
      refine mR_ix [(0, .int w), (1, .int 0), (2, .int 19)] rfl rfl rfl ?_
      refine mE_ildn 1 rfl rfl rfl rfl ?_
      refine mE_ildn 2 rfl rfl rfl rfl ?_
      refine mE_ic_lt rfl (fun h13 => ?_) (fun h13 => ?_)
      ·
        have h13 : w < (0 : Int32) := h13
        exfalso
        simp only [Int32.not_le, Int32.not_lt, Int32.le_iff_toInt_le, Int32.lt_iff_toInt_lt, mi_m1, mi_0, mi_1, mi_2, mi_4, mi_7, mi_9, mi_19, mi_40, mi_60, mi_2000, mi_10000] at h0 h11 h12 h13
        all_goals omega
      ·
        have h13 : ¬ (w < (0 : Int32)) := h13
        refine mE_ildn 6 rfl rfl rfl rfl ?_
        refine mE_ildn 7 rfl rfl rfl rfl ?_
        refine mE_ic_gt rfl (fun h14 => ?_) (fun h14 => ?_)
        ·
          have h14 : (19 : Int32) < w := h14
          refine mE_ico 15 0 rfl rfl rfl ?_
          refine mE_iret rfl ⟨rfl, ?_⟩
          refine mE_if_eq_t 20 rfl (by decide) rfl ?_
          refine mE_ico 21 (-1) rfl rfl rfl ?_
          exact mE_iret rfl ⟨rfl, _, rfl, rfl, Nat.le_of_ble_eq_true rfl, Nat.le_of_ble_eq_true rfl⟩
        ·
          have h14 : ¬ ((19 : Int32) < w) := h14
          exfalso
          simp only [Int32.not_le, Int32.not_lt, Int32.le_iff_toInt_le, Int32.lt_iff_toInt_lt, mi_m1, mi_0, mi_1, mi_2, mi_4, mi_7, mi_9, mi_19, mi_40, mi_60, mi_2000, mi_10000] at h0 h11 h12 h13 h14
          all_goals omega
    ·
      have h12 : ¬ ((19 : Int32) < w) := h12
      exfalso
      simp only [Int32.not_le, Int32.not_lt, Int32.le_iff_toInt_le, Int32.lt_iff_toInt_lt, mi_m1, mi_0, mi_1, mi_2, mi_4, mi_7, mi_9, mi_19, mi_40, mi_60, mi_2000, mi_10000] at h0 h11 h12
      all_goals omega

set_option maxHeartbeats 4000000 in
set_option maxRecDepth 100000 in
theorem b_feed_lo (n v : Int32) (h0 : n < (1 : Int32)) : mBoth 68 123 [.int n, .int v] := by
  apply mBoth_of
  refine mR_ix [(0, .ref 0), (1, .int n), (2, .int v)] rfl rfl rfl ?_
  refine mE_ildn 1 rfl rfl rfl rfl ?_
  refine mE_ico 2 1 rfl rfl rfl ?_
  refine mE_ico 3 4 rfl rfl rfl ?_
  refine mE_cs [.int n, .int 1, .int 4] [] rfl rfl rfl rfl rfl ?_
  refine mR_ix [(0, .int n), (1, .int 1), (2, .int 4)] rfl rfl rfl ?_
  refine mE_ildn 1 rfl rfl rfl rfl ?_
  refine mE_ildn 2 rfl rfl rfl rfl ?_
  refine mE_ic_lt rfl (fun h11 => ?_) (fun h11 => ?_)
  ·
    have h11 : n < (1 : Int32) := h11
    refine mE_ico 15 0 rfl rfl rfl ?_
    refine mE_iret rfl ⟨rfl, ?_⟩
    refine mE_if_ne_f 9 rfl (by decide) rfl ?_
    refine mE_ico 10 (-1) rfl rfl rfl ?_
    refine mE_iret rfl ⟨rfl, ⟨_, mh_47⟩, ?_⟩
    refine mR_ix [(0, .ref 47), (1, .int n), (2, .int v)] rfl rfl rfl ?_
    refine mE_ildn 1 rfl rfl rfl rfl ?_
    refine mE_ico 2 1 rfl rfl rfl ?_
    refine mE_ico 3 4 rfl rfl rfl ?_
    refine mE_cs [.int n, .int 1, .int 4] [] rfl rfl rfl rfl rfl ?_
    refine mR_ix [(0, .int n), (1, .int 1), (2, .int 4)] rfl rfl rfl ?_
    refine mE_ildn 1 rfl rfl rfl rfl ?_
    refine mE_ildn 2 rfl rfl rfl rfl ?_
    refine mE_ic_lt rfl (fun h12 => ?_) (fun h12 => ?_)
    ·
      have h12 : n < (1 : Int32) := h12
      refine mE_ico 15 0 rfl rfl rfl ?_
      refine mE_iret rfl ⟨rfl, ?_⟩
      refine mE_if_ne_f 9 rfl (by decide) rfl ?_
      refine mE_ico 10 (-1) rfl rfl rfl ?_
      exact mE_iret rfl ⟨rfl, _, rfl, rfl, Nat.le_of_ble_eq_true rfl, Nat.le_of_ble_eq_true rfl⟩
    ·
      have h12 : ¬ (n < (1 : Int32)) := h12
      exfalso
      simp only [Int32.not_le, Int32.not_lt, Int32.le_iff_toInt_le, Int32.lt_iff_toInt_lt, mi_m1, mi_0, mi_1, mi_2, mi_4, mi_7, mi_9, mi_19, mi_40, mi_60, mi_2000, mi_10000] at h0 h11 h12
      all_goals omega
  ·
    have h11 : ¬ (n < (1 : Int32)) := h11
    exfalso
    simp only [Int32.not_le, Int32.not_lt, Int32.le_iff_toInt_le, Int32.lt_iff_toInt_lt, mi_m1, mi_0, mi_1, mi_2, mi_4, mi_7, mi_9, mi_19, mi_40, mi_60, mi_2000, mi_10000] at h0 h11
    all_goals omega
