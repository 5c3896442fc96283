set_option maxHeartbeats 4000000 in
set_option maxRecDepth 100000 in
theorem b_feed_hi (n v : Int32) (h0 : (4 : Int32) < n) : mBoth 68 123 [.int n, .int v] := by
  apply mBoth_of
  refine mR_ix [(0, .ref 0), (1, .int n), (2, .int v)] rfl rfl rfl ?_
  refine mE_ildn 1 rfl rfl rfl rfl ?_
  refine mE_ico 2 1 rfl rfl rfl ?_
  refine mE_ico 3 4 rfl rfl rfl ?_
  refine mE_cs [.int n, .int 1, .int 4] [] rfl rfl rfl rfl rfl ?_
  refine mR_ix [(0, .int n), (1, .int 1), (2, .int 4)] rfl rfl rfl ?_
  refine mE_ildn 1 rfl rfl rfl rfl ?_
  refine mE_ildn 2 rfl rfl rfl rfl ?_
  refine mE_ic_lt rfl (fun h11 => ?_) (fun h11 => ?_)
  ·
    have h11 : n < (1 : Int32) := h11
    exfalso
    simp only [Int32.not_le, Int32.not_lt, Int32.le_iff_toInt_le, Int32.lt_iff_toInt_lt, mi_m1, mi_0, mi_1, mi_2, mi_4, mi_7, mi_9, mi_19, mi_40, mi_60, mi_2000, mi_10000] at h0 h11
    all_goals omega
  ·
    have h11 : ¬ (n < (1 : Int32)) := h11
    refine mE_ildn 6 rfl rfl rfl rfl ?_
    refine mE_ildn 7 rfl rfl rfl rfl ?_
    refine mE_ic_gt rfl (fun h12 => ?_) (fun h12 => ?_)
    ·
      have h12 : (4 : Int32) < n := h12
      refine mE_ico 15 0 rfl rfl rfl ?_
      refine mE_iret rfl ⟨rfl, ?_⟩
      refine mE_if_ne_f 9 rfl (by decide) rfl ?_
      refine mE_ico 10 (-1) rfl rfl rfl ?_
      refine mE_iret rfl ⟨rfl, ⟨_, mh_47⟩, ?_⟩
      refine mR_ix [(0, .ref 47), (1, .int n), (2, .int v)] rfl rfl rfl ?_
      refine mE_ildn 1 rfl rfl rfl rfl ?_
      refine mE_ico 2 1 rfl rfl rfl ?_
      refine mE_ico 3 4 rfl rfl rfl ?_
      refine mE_cs [.int n, .int 1, .int 4] [] rfl rfl rfl rfl rfl ?_
      refine mR_ix [(0, .int n), (1, .int 1), (2, .int 4)] rfl rfl rfl ?_
      refine mE_ildn 1 rfl rfl rfl rfl ?_
      refine mE_ildn 2 rfl rfl rfl rfl ?_
      refine mE_ic_lt rfl (fun h13 => ?_) (fun h13 => ?_)
      ·
        have h13 : n < (1 : Int32) := h13
        exfalso
        simp only [Int32.not_le, Int32.not_lt, Int32.le_iff_toInt_le, Int32.lt_iff_toInt_lt, mi_m1, mi_0, mi_1, mi_2, mi_4, mi_7, mi_9, mi_19, mi_40, mi_60, mi_2000, mi_10000] at h0 h11 h12 h13
        all_goals omega
      ·
        have h13 : ¬ (n < (1 : Int32)) := h13
        refine mE_ildn 6 rfl rfl rfl rfl ?_
        refine mE_ildn 7 rfl rfl rfl rfl ?_
        refine mE_ic_gt rfl (fun h14 => ?_) (fun h14 => ?_)
        ·
          have h14 : (4 : Int32) < n := h14
          refine mE_ico 15 0 rfl rfl rfl ?_
          refine mE_iret rfl ⟨rfl, ?_⟩
          refine mE_if_ne_f 9 rfl (by decide) rfl ?_
          refine mE_ico 10 (-1) rfl rfl rfl ?_
          exact mE_iret rfl ⟨rfl, _, rfl, rfl, Nat.le_of_ble_eq_true rfl, Nat.le_of_ble_eq_true rfl⟩
        ·
          have h14 : ¬ ((4 : Int32) < n) := h14
          exfalso
          simp only [Int32.not_le, Int32.not_lt, Int32.le_iff_toInt_le, Int32.lt_iff_toInt_lt, mi_m1, mi_0, mi_1, mi_2, mi_4, mi_7, mi_9, mi_19, mi_40, mi_60, mi_2000, mi_10000] at h0 h11 h12 h13 h14
          all_goals omega
    ·
      have h12 : ¬ ((4 : Int32) < n) := h12
      exfalso
      simp only [Int32.not_le, Int32.not_lt, Int32.le_iff_toInt_le, Int32.lt_iff_toInt_lt, mi_m1, mi_0, mi_1, mi_2, mi_4, mi_7, mi_9, mi_19, mi_40, mi_60, mi_2000, mi_10000] at h0 h11 h12
      all_goals omega

set_option maxHeartbeats 4000000 in
set_option maxRecDepth 100000 in
theorem b_make_lo (k f : Int32) (h0 : k < (0 : Int32)) : mBoth 69 124 [.int k, .int f] := by
  apply mBoth_of
  refine mR_ix [(0, .ref 0), (1, .int k), (2, .int f)] rfl rfl rfl ?_
  refine mE_ildn 1 rfl rfl rfl rfl ?_
  refine mE_ico 2 0 rfl rfl rfl ?_
  refine mE_ico 3 2 rfl rfl rfl ?_
  refine mE_cs [.int k, .int 0, .int 2] [] rfl rfl rfl rfl rfl ?_
  refine mR_ix [(0, .int k), (1, .int 0), (2, .int 2)] rfl rfl rfl ?_
  refine mE_ildn 1 rfl rfl rfl rfl ?_
  refine mE_ildn 2 rfl rfl rfl rfl ?_
  refine mE_ic_lt rfl (fun h11 => ?_) (fun h11 => ?_)
  ·
    have h11 : k < (0 : Int32) := h11
    refine mE_ico 15 0 rfl rfl rfl ?_
    refine mE_iret rfl ⟨rfl, ?_⟩
    refine mE_if_eq_t 23 rfl (by decide) rfl ?_
    refine mE_ico 24 (-1) rfl rfl rfl ?_
    refine mE_iret rfl ⟨rfl, ⟨_, mh_47⟩, ?_⟩
    refine mR_ix [(0, .ref 47), (1, .int k), (2, .int f)] rfl rfl rfl ?_
    refine mE_ildn 1 rfl rfl rfl rfl ?_
    refine mE_ico 2 0 rfl rfl rfl ?_
    refine mE_ico 3 2 rfl rfl rfl ?_
    refine mE_cs [.int k, .int 0, .int 2] [] rfl rfl rfl rfl rfl ?_
    refine mR_ix [(0, .int k), (1, .int 0), (2, .int 2)] rfl rfl rfl ?_
    refine mE_ildn 1 rfl rfl rfl rfl ?_
    refine mE_ildn 2 rfl rfl rfl rfl ?_
    refine mE_ic_lt rfl (fun h12 => ?_) (fun h12 => ?_)
    ·
      have h12 : k < (0 : Int32) := h12
      refine mE_ico 15 0 rfl rfl rfl ?_
      refine mE_iret rfl ⟨rfl, ?_⟩
      refine mE_if_eq_t 23 rfl (by decide) rfl ?_
      refine mE_ico 24 (-1) rfl rfl rfl ?_
      exact mE_iret rfl ⟨rfl, _, rfl, rfl, Nat.le_of_ble_eq_true rfl, Nat.le_of_ble_eq_true rfl⟩
    ·
      have h12 : ¬ (k < (0 : Int32)) := h12
      exfalso
      simp only [Int32.not_le, Int32.not_lt, Int32.le_iff_toInt_le, Int32.lt_iff_toInt_lt, mi_m1, mi_0, mi_1, mi_2, mi_4, mi_7, mi_9, mi_19, mi_40, mi_60, mi_2000, mi_10000] at h0 h11 h12
      all_goals omega
  ·
    have h11 : ¬ (k < (0 : Int32)) := h11
    exfalso
    simp only [Int32.not_le, Int32.not_lt, Int32.le_iff_toInt_le, Int32.lt_iff_toInt_lt, mi_m1, mi_0, mi_1, mi_2, mi_4, mi_7, mi_9, mi_19, mi_40, mi_60, mi_2000, mi_10000] at h0 h11
    all_goals omega

set_option maxHeartbeats 4000000 in
set_option maxRecDepth 100000 in
theorem b_make_hi (k f : Int32) (h0 : (2 : Int32) < k) : mBoth 69 124 [.int k, .int f] := by
  apply mBoth_of
  refine mR_ix [(0, .ref 0), (1, .int k), (2, .int f)] rfl rfl rfl ?_
  refine mE_ildn 1 rfl rfl rfl rfl ?_
  refine mE_ico 2 0 rfl rfl rfl ?_
  refine mE_ico 3 2 rfl rfl rfl ?_
  refine mE_cs [.int k, .int 0, .int 2] [] rfl rfl rfl rfl rfl ?_
  refine mR_ix [(0, .int k), (1, .int 0), (2, .int 2)] rfl rfl rfl ?_
  refine mE_ildn 1 rfl rfl rfl rfl ?_
  refine mE_ildn 2 rfl rfl rfl rfl ?_
  refine mE_ic_lt rfl (fun h11 => ?_) (fun h11 => ?_)
  ·
    have h11 : k < (0 : Int32) := h11
    exfalso
    simp only [Int32.not_le, Int32.not_lt, Int32.le_iff_toInt_le, Int32.lt_iff_toInt_lt, mi_m1, mi_0, mi_1, mi_2, mi_4, mi_7, mi_9, mi_19, mi_40, mi_60, mi_2000, mi_10000] at h0 h11
    all_goals omega
  ·
    have h11 : ¬ (k < (0 : Int32)) := h11
    refine mE_ildn 6 rfl rfl rfl rfl ?_
    refine mE_ildn 7 rfl rfl rfl rfl ?_
    refine mE_ic_gt rfl (fun h12 => ?_) (fun h12 => ?_)
    ·
      have h12 : (2 : Int32) < k := h12
      refine mE_ico 15 0 rfl rfl rfl ?_
      refine mE_iret rfl ⟨rfl, ?_⟩
      refine mE_if_eq_t 23 rfl (by decide) rfl ?_
      refine mE_ico 24 (-1) rfl rfl rfl ?_
      refine mE_iret rfl ⟨rfl, ⟨_, mh_47⟩, ?_⟩
      refine mR_ix [(0, .ref 47), (1, .int k), (2, .int f)] rfl rfl rfl ?_
      refine mE_ildn 1 rfl rfl rfl rfl ?_
      refine mE_ico 2 0 rfl rfl rfl ?_
      refine mE_ico 3 2 rfl rfl rfl ?_
      refine mE_cs [.int k, .int 0, .int 2] [] rfl rfl rfl rfl rfl ?_
      refine mR_ix [(0, .int k), (1, .int 0), (2, .int 2)] rfl rfl rfl ?_
      refine mE_ildn 1 rfl rfl rfl rfl ?_
      refine mE_ildn 2 rfl rfl rfl rfl ?_
      refine mE_ic_lt rfl (fun h13 => ?_) (fun h13 => ?_)
      ·
        have h13 : k < (0 : Int32) := h13
        exfalso
        simp only [Int32.not_le, Int32.not_lt, Int32.le_iff_toInt_le, Int32.lt_iff_toInt_lt, mi_m1, mi_0, mi_1, mi_2, mi_4, mi_7, mi_9, mi_19, mi_40, mi_60, mi_2000, mi_10000] at h0 h11 h12 h13
        all_goals omega
      ·
        have h13 : ¬ (k < (0 : Int32)) := h13
        refine mE_ildn 6 rfl rfl rfl rfl ?_
        refine mE_ildn 7 rfl rfl rfl rfl ?_
        refine mE_ic_gt rfl (fun h14 => ?_) (fun h14 => ?_)
        ·
          have h14 : (2 : Int32) < k := h14
          refine mE_ico 15 0 rfl rfl rfl ?_
          refine mE_iret rfl ⟨rfl, ?_⟩
          refine mE_if_eq_t 23 rfl (by decide) rfl ?_
          refine mE_ico 24 (-1) rfl rfl rfl ?_
          exact mE_iret rfl ⟨rfl, _, rfl, rfl, Nat.le_of_ble_eq_true rfl, Nat.le_of_ble_eq_true rfl⟩
        ·
          have h14 : ¬ ((2 : Int32) < k) := h14
          exfalso
          simp only [Int32.not_le, Int32.not_lt, Int32.le_iff_toInt_le, Int32.lt_iff_toInt_lt, mi_m1, mi_0, mi_1, mi_2, mi_4, mi_7, mi_9, mi_19, mi_40, mi_60, mi_2000, mi_10000] at h0 h11 h12 h13 h14
          all_goals omega
    ·
      have h12 : ¬ ((2 : Int32) < k) := h12
      exfalso
      simp only [Int32.not_le, Int32.not_lt, Int32.le_iff_toInt_le, Int32.lt_iff_toInt_lt, mi_m1, mi_0, mi_1, mi_2, mi_4, mi_7, mi_9, mi_19, mi_40, mi_60, mi_2000, mi_10000] at h0 h11 h12
      all_goals omega

set_option maxHeartbeats 4000000 in
set_option maxRecDepth 100000 in
theorem b_text_lo (k i : Int32) (h0 : k < (0 : Int32)) : mBoth 72 127 [.int k, .int i] := by
  apply mBoth_of
  refine mR_ix [(0, .ref 0), (1, .int k), (2, .int i)] rfl rfl rfl ?_
  refine mE_ildn 1 rfl rfl rfl rfl ?_
  refine mE_ico 2 0 rfl rfl rfl ?_
  refine mE_ico 3 2 rfl rfl rfl ?_
  refine mE_cs [.int k, .int 0, .int 2] [] rfl rfl rfl rfl rfl ?_
  refine mR_ix [(0, .int k), (1, .int 0), (2, .int 2)] rfl rfl rfl ?_
  refine mE_ildn 1 rfl rfl rfl rfl ?_
  refine mE_ildn 2 rfl rfl rfl rfl ?_
  refine mE_ic_lt rfl (fun h11 => ?_) (fun h11 => ?_)
  ·
    have h11 : k < (0 : Int32) := h11
    refine mE_ico 15 0 rfl rfl rfl ?_
    refine mE_iret rfl ⟨rfl, ?_⟩
    refine mE_if_eq_t 31 rfl (by decide) rfl ?_
    refine mE_ico 32 (-1) rfl rfl rfl ?_
    refine mE_iret rfl ⟨rfl, ⟨_, mh_47⟩, ?_⟩
    refine mR_ix [(0, .ref 47), (1, .int k), (2, .int i)] rfl rfl rfl ?_
    refine mE_ildn 1 rfl rfl rfl rfl ?_
    refine mE_ico 2 0 rfl rfl rfl ?_
    refine mE_ico 3 2 rfl rfl rfl ?_
    refine mE_cs [.int k, .int 0, .int 2] [] rfl rfl rfl rfl rfl ?_
    refine mR_ix [(0, .int k), (1, .int 0), (2, .int 2)] rfl rfl rfl ?_
    refine mE_ildn 1 rfl rfl rfl rfl ?_
    refine mE_ildn 2 rfl rfl rfl rfl ?_
    refine mE_ic_lt rfl (fun h12 => ?_) (fun h12 => ?_)
    ·
      have h12 : k < (0 : Int32) := h12
      refine mE_ico 15 0 rfl rfl rfl ?_
      refine mE_iret rfl ⟨rfl, ?_⟩
      refine mE_if_ne_f 9 rfl (by decide) rfl ?_
      refine mE_ico 10 (-1) rfl rfl rfl ?_
      exact mE_iret rfl ⟨rfl, _, rfl, rfl, Nat.le_of_ble_eq_true rfl, Nat.le_of_ble_eq_true rfl⟩
    ·
      have h12 : ¬ (k < (0 : Int32)) := h12
      exfalso
      simp only [Int32.not_le, Int32.not_lt, Int32.le_iff_toInt_le, Int32.lt_iff_toInt_lt, mi_m1, mi_0, mi_1, mi_2, mi_4, mi_7, mi_9, mi_19, mi_40, mi_60, mi_2000, mi_10000] at h0 h11 h12
      all_goals omega
  ·
    have h11 : ¬ (k < (0 : Int32)) := h11
    exfalso
    simp only [Int32.not_le, Int32.not_lt, Int32.le_iff_toInt_le, Int32.lt_iff_toInt_lt, mi_m1, mi_0, mi_1, mi_2, mi_4, mi_7, mi_9, mi_19, mi_40, mi_60, mi_2000, mi_10000] at h0 h11
    all_goals omega

set_option maxHeartbeats 4000000 in
set_option maxRecDepth 100000 in
theorem b_text_hi (k i : Int32) (h0 : (2 : Int32) < k) : mBoth 72 127 [.int k, .int i] := by
  apply mBoth_of
  refine mR_ix [(0, .ref 0), (1, .int k), (2, .int i)] rfl rfl rfl ?_
  refine mE_ildn 1 rfl rfl rfl rfl ?_
  refine mE_ico 2 0 rfl rfl rfl ?_
  refine mE_ico 3 2 rfl rfl rfl ?_
  refine mE_cs [.int k, .int 0, .int 2] [] rfl rfl rfl rfl rfl ?_
  refine mR_ix [(0, .int k), (1, .int 0), (2, .int 2)] rfl rfl rfl ?_
  refine mE_ildn 1 rfl rfl rfl rfl ?_
  refine mE_ildn 2 rfl rfl rfl rfl ?_
  refine mE_ic_lt rfl (fun h11 => ?_) (fun h11 => ?_)
  ·
    have h11 : k < (0 : Int32) := h11
    exfalso
    simp only [Int32.not_le, Int32.not_lt, Int32.le_iff_toInt_le, Int32.lt_iff_toInt_lt, mi_m1, mi_0, mi_1, mi_2, mi_4, mi_7, mi_9, mi_19, mi_40, mi_60, mi_2000, mi_10000] at h0 h11
    all_goals omega
  ·
    have h11 : ¬ (k < (0 : Int32)) := h11
    refine mE_ildn 6 rfl rfl rfl rfl ?_
    refine mE_ildn 7 rfl rfl rfl rfl ?_
    refine mE_ic_gt rfl (fun h12 => ?_) (fun h12 => ?_)
    ·
      have h12 : (2 : Int32) < k := h12
      refine mE_ico 15 0 rfl rfl rfl ?_
      refine mE_iret rfl ⟨rfl, ?_⟩
      refine mE_if_eq_t 31 rfl (by decide) rfl ?_
      refine mE_ico 32 (-1) rfl rfl rfl ?_
      refine mE_iret rfl ⟨rfl, ⟨_, mh_47⟩, ?_⟩
      refine mR_ix [(0, .ref 47), (1, .int k), (2, .int i)] rfl rfl rfl ?_
      refine mE_ildn 1 rfl rfl rfl rfl ?_
      refine mE_ico 2 0 rfl rfl rfl ?_
      refine mE_ico 3 2 rfl rfl rfl ?_
      refine mE_cs [.int k, .int 0, .int 2] [] rfl rfl rfl rfl rfl ?_
      refine mR_ix [(0, .int k), (1, .int 0), (2, .int 2)] rfl rfl rfl ?_
      refine mE_ildn 1 rfl rfl rfl rfl ?_
      refine mE_ildn 2 rfl rfl rfl rfl ?_
      refine mE_ic_lt rfl (fun h13 => ?_) (fun h13 => ?_)
      ·
        have h13 : k < (0 : Int32) := h13
        exfalso
        simp only [Int32.not_le, Int32.not_lt, Int32.le_iff_toInt_le, Int32.lt_iff_toInt_lt, mi_m1, mi_0, mi_1, mi_2, mi_4, mi_7, mi_9, mi_19, mi_40, mi_60, mi_2000, mi_10000] at h0 h11 h12 h13
        all_goals omega
      ·
        have h13 : ¬ (k < (0 : Int32)) := h13
        refine mE_ildn 6 rfl rfl rfl rfl ?_
        refine mE_ildn 7 rfl rfl rfl rfl ?_
        refine mE_ic_gt rfl (fun h14 => ?_) (fun h14 => ?_)
        ·
          have h14 : (2 : Int32) < k := h14
          refine mE_ico 15 0 rfl rfl rfl ?_
          refine mE_iret rfl ⟨rfl, ?_⟩
          refine mE_if_ne_f 9 rfl (by decide) rfl ?_
          refine mE_ico 10 (-1) rfl rfl rfl ?_
          exact mE_iret rfl ⟨rfl, _, rfl, rfl, Nat.le_of_ble_eq_true rfl, Nat.le_of_ble_eq_true rfl⟩
        ·
          have h14 : ¬ ((2 : Int32) < k) := h14
          exfalso
          simp only [Int32.not_le, Int32.not_lt, Int32.le_iff_toInt_le, Int32.lt_iff_toInt_lt, mi_m1, mi_0, mi_1, mi_2, mi_4, mi_7, mi_9, mi_19, mi_40, mi_60, mi_2000, mi_10000] at h0 h11 h12 h13 h14
          all_goals omega
    ·
      have h12 : ¬ ((2 : Int32) < k) := h12
      exfalso
      simp only [Int32.not_le, Int32.not_lt, Int32.le_iff_toInt_le, Int32.lt_iff_toInt_lt, mi_m1, mi_0, mi_1, mi_2, mi_4, mi_7, mi_9, mi_19, mi_40, mi_60, mi_2000, mi_10000] at h0 h11 h12
      all_goals omega

set_option maxHeartbeats 4000000 in
set_option maxRecDepth 100000 in
theorem b_rain_rlo (w r : Int32) (h0 : ¬ w < (0 : Int32)) (h1 : ¬ (19 : Int32) < w) (h2 : r < (0 : Int32)) : mBoth 60 130 [.int w, .int r] := by
  apply mBoth_of
  refine mR_ix [(0, .ref 0), (1, .int w), (2, .int r)] rfl rfl rfl ?_
  refine mE_ildn 1 rfl rfl rfl rfl ?_
  refine mE_ico 2 0 rfl rfl rfl ?_
  refine mE_bip 4 19 rfl rfl rfl ?_
  refine mE_cs [.int w, .int 0, .int 19] [] rfl rfl rfl rfl rfl ?_
  refine mR_ix [(0, .int w), (1, .int 0), (2, .int 19)] rfl rfl rfl ?_
  refine mE_ildn 1 rfl rfl rfl rfl ?_
  refine mE_ildn 2 rfl rfl rfl rfl ?_
  refine mE_ic_lt rfl (fun h11 => ?_) (fun h11 => ?_)
  ·
    have h11 : w < (0 : Int32) := h11
    exfalso
    simp only [Int32.not_le, Int32.not_lt, Int32.le_iff_toInt_le, Int32.lt_iff_toInt_lt, mi_m1, mi_0, mi_1, mi_2, mi_4, mi_7, mi_9, mi_19, mi_40, mi_60, mi_2000, mi_10000] at h0 h1 h11
    all_goals omega
  ·
    have h11 : ¬ (w < (0 : Int32)) := h11
    refine mE_ildn 6 rfl rfl rfl rfl ?_
    refine mE_ildn 7 rfl rfl rfl rfl ?_
    refine mE_ic_gt rfl (fun h12 => ?_) (fun h12 => ?_)
    ·
      have h12 : (19 : Int32) < w := h12
      exfalso
      simp only [Int32.not_le, Int32.not_lt, Int32.le_iff_toInt_le, Int32.lt_iff_toInt_lt, mi_m1, mi_0, mi_1, mi_2, mi_4, mi_7, mi_9, mi_19, mi_40, mi_60, mi_2000, mi_10000] at h0 h1 h11 h12
      all_goals omega
    ·
      have h12 : ¬ ((19 : Int32) < w) := h12
      refine mE_ico 11 1 rfl rfl rfl ?_
      refine mE_goto 15 rfl rfl ?_
      refine mE_iret rfl ⟨rfl, ?_⟩
      refine mE_if_eq_f 10 rfl (by decide) rfl ?_
      refine mE_ildn 11 rfl rfl rfl rfl ?_
      refine mE_ico 12 0 rfl rfl rfl ?_
      refine mE_bip 14 9 rfl rfl rfl ?_
      refine mE_cs [.int r, .int 0, .int 9] [] rfl rfl rfl rfl rfl ?_
      refine mR_ix [(0, .int r), (1, .int 0), (2, .int 9)] rfl rfl rfl ?_
      refine mE_ildn 1 rfl rfl rfl rfl ?_
      refine mE_ildn 2 rfl rfl rfl rfl ?_
      refine mE_ic_lt rfl (fun h13 => ?_) (fun h13 => ?_)
      ·
        have h13 : r < (0 : Int32) := h13
        refine mE_ico 15 0 rfl rfl rfl ?_
        refine mE_iret rfl ⟨rfl, ?_⟩
        refine mE_if_ne_f 20 rfl (by decide) rfl ?_
        refine mE_ico 21 (-1) rfl rfl rfl ?_
        refine mE_iret rfl ⟨rfl, ⟨_, mh_47⟩, ?_⟩
        refine mR_ix [(0, .ref 47), (1, .int w), (2, .int r)] rfl rfl rfl ?_
        refine mE_ildn 1 rfl rfl rfl rfl ?_
        refine mE_ico 2 0 rfl rfl rfl ?_
        refine mE_bip 4 19 rfl rfl rfl ?_
        refine mE_cs [.int w, .int 0, .int 19] [] rfl rfl rfl rfl rfl ?_
        refine mR_ix [(0, .int w), (1, .int 0), (2, .int 19)] rfl rfl rfl ?_
        refine mE_ildn 1 rfl rfl rfl rfl ?_
        refine mE_ildn 2 rfl rfl rfl rfl ?_
        refine mE_ic_lt rfl (fun h14 => ?_) (fun h14 => ?_)
        ·
          have h14 : w < (0 : Int32) := h14
          exfalso
          simp only [Int32.not_le, Int32.not_lt, Int32.le_iff_toInt_le, Int32.lt_iff_toInt_lt, mi_m1, mi_0, mi_1, mi_2, mi_4, mi_7, mi_9, mi_19, mi_40, mi_60, mi_2000, mi_10000] at h0 h1 h11 h12 h14
          all_goals omega
        ·
          have h14 : ¬ (w < (0 : Int32)) := h14
          refine mE_ildn 6 rfl rfl rfl rfl ?_
          refine mE_ildn 7 rfl rfl rfl rfl ?_
          refine mE_ic_gt rfl (fun h15 => ?_) (fun h15 => ?_)
          ·
            have h15 : (19 : Int32) < w := h15
            exfalso
            simp only [Int32.not_le, Int32.not_lt, Int32.le_iff_toInt_le, Int32.lt_iff_toInt_lt, mi_m1, mi_0, mi_1, mi_2, mi_4, mi_7, mi_9, mi_19, mi_40, mi_60, mi_2000, mi_10000] at h0 h1 h11 h12 h14 h15
            all_goals omega
          ·
            have h15 : ¬ ((19 : Int32) < w) := h15
            refine mE_ico 11 1 rfl rfl rfl ?_
            refine mE_goto 15 rfl rfl ?_
            refine mE_iret rfl ⟨rfl, ?_⟩
            refine mE_if_eq_f 10 rfl (by decide) rfl ?_
            refine mE_ildn 11 rfl rfl rfl rfl ?_
            refine mE_ico 12 0 rfl rfl rfl ?_
            refine mE_bip 14 9 rfl rfl rfl ?_
            refine mE_cs [.int r, .int 0, .int 9] [] rfl rfl rfl rfl rfl ?_
            refine mR_ix [(0, .int r), (1, .int 0), (2, .int 9)] rfl rfl rfl ?_
            refine mE_ildn 1 rfl rfl rfl rfl ?_
            refine mE_ildn 2 rfl rfl rfl rfl ?_
            refine mE_ic_lt rfl (fun h16 => ?_) (fun h16 => ?_)
            ·
              have h16 : r < (0 : Int32) := h16
              refine mE_ico 15 0 rfl rfl rfl ?_
              refine mE_iret rfl ⟨rfl, ?_⟩
              refine mE_if_ne_f 20 rfl (by decide) rfl ?_
              refine mE_ico 21 (-1) rfl rfl rfl ?_
              exact mE_iret rfl ⟨rfl, _, rfl, rfl, Nat.le_of_ble_eq_true rfl, Nat.le_of_ble_eq_true rfl⟩
            ·
              have h16 : ¬ (r < (0 : Int32)) := h16
              exfalso
              simp only [Int32.not_le, Int32.not_lt, Int32.le_iff_toInt_le, Int32.lt_iff_toInt_lt, mi_m1, mi_0, mi_1, mi_2, mi_4, mi_7, mi_9, mi_19, mi_40, mi_60, mi_2000, mi_10000] at h2 h13 h16
              all_goals omega
      ·
        have h13 : ¬ (r < (0 : Int32)) := h13
        exfalso
        simp only [Int32.not_le, Int32.not_lt, Int32.le_iff_toInt_le, Int32.lt_iff_toInt_lt, mi_m1, mi_0, mi_1, mi_2, mi_4, mi_7, mi_9, mi_19, mi_40, mi_60, mi_2000, mi_10000] at h2 h13
        all_goals omega

set_option maxHeartbeats 4000000 in
set_option maxRecDepth 100000 in
theorem b_rain_rhi (w r : Int32) (h0 : ¬ w < (0 : Int32)) (h1 : ¬ (19 : Int32) < w) (h2 : (9 : Int32) < r) : mBoth 60 130 [.int w, .int r] := by
  apply mBoth_of
  refine mR_ix [(0, .ref 0), (1, .int w), (2, .int r)] rfl rfl rfl ?_
  refine mE_ildn 1 rfl rfl rfl rfl ?_
  refine mE_ico 2 0 rfl rfl rfl ?_
  refine mE_bip 4 19 rfl rfl rfl ?_
  refine mE_cs [.int w, .int 0, .int 19] [] rfl rfl rfl rfl rfl ?_
  refine mR_ix [(0, .int w), (1, .int 0), (2, .int 19)] rfl rfl rfl ?_
  refine mE_ildn 1 rfl rfl rfl rfl ?_
  refine mE_ildn 2 rfl rfl rfl rfl ?_
  refine mE_ic_lt rfl (fun h11 => ?_) (fun h11 => ?_)
  ·
    have h11 : w < (0 : Int32) := h11
    exfalso
    simp only [Int32.not_le, Int32.not_lt, Int32.le_iff_toInt_le, Int32.lt_iff_toInt_lt, mi_m1, mi_0, mi_1, mi_2, mi_4, mi_7, mi_9, mi_19, mi_40, mi_60, mi_2000, mi_10000] at h0 h1 h11
    all_goals omega
  ·
    have h11 : ¬ (w < (0 : Int32)) := h11
    refine mE_ildn 6 rfl rfl rfl rfl ?_
    refine mE_ildn 7 rfl rfl rfl rfl ?_
    refine mE_ic_gt rfl (fun h12 => ?_) (fun h12 => ?_)
    ·
      have h12 : (19 : Int32) < w := h12
      exfalso
      simp only [Int32.not_le, Int32.not_lt, Int32.le_iff_toInt_le, Int32.lt_iff_toInt_lt, mi_m1, mi_0, mi_1, mi_2, mi_4, mi_7, mi_9, mi_19, mi_40, mi_60, mi_2000, mi_10000] at h0 h1 h11 h12
      all_goals omega
    ·
      have h12 : ¬ ((19 : Int32) < w) := h12
      refine mE_ico 11 1 rfl rfl rfl ?_
      refine mE_goto 15 rfl rfl ?_
      refine mE_iret rfl ⟨rfl, ?_⟩
      refine mE_if_eq_f 10 rfl (by decide) rfl ?_
      refine mE_ildn 11 rfl rfl rfl rfl ?_
      refine mE_ico 12 0 rfl rfl rfl ?_
      refine mE_bip 14 9 rfl rfl rfl ?_
      refine mE_cs [.int r, .int 0, .int 9] [] rfl rfl rfl rfl rfl ?_
      refine mR_ix [(0, .int r), (1, .int 0), (2, .int 9)] rfl rfl rfl ?_
      refine mE_ildn 1 rfl rfl rfl rfl ?_
      refine mE_ildn 2 rfl rfl rfl rfl ?_
      refine mE_ic_lt rfl (fun h13 => ?_) (fun h13 => ?_)
      ·
        have h13 : r < (0 : Int32) := h13
        exfalso
        simp only [Int32.not_le, Int32.not_lt, Int32.le_iff_toInt_le, Int32.lt_iff_toInt_lt, mi_m1, mi_0, mi_1, mi_2, mi_4, mi_7, mi_9, mi_19, mi_40, mi_60, mi_2000, mi_10000] at h2 h13
        all_goals omega
      ·
        have h13 : ¬ (r < (0 : Int32)) := h13
        refine mE_ildn 6 rfl rfl rfl rfl ?_
        refine mE_ildn 7 rfl rfl rfl rfl ?_
        refine mE_ic_gt rfl (fun h14 => ?_) (fun h14 => ?_)
        ·
          have h14 : (9 : Int32) < r := h14
          refine mE_ico 15 0 rfl rfl rfl ?_
          refine mE_iret rfl ⟨rfl, ?_⟩
          refine mE_if_ne_f 20 rfl (by decide) rfl ?_
          refine mE_ico 21 (-1) rfl rfl rfl ?_
          refine mE_iret rfl ⟨rfl, ⟨_, mh_47⟩, ?_⟩
          refine mR_ix [(0, .ref 47), (1, .int w), (2, .int r)] rfl rfl rfl ?_
          refine mE_ildn 1 rfl rfl rfl rfl ?_
          refine mE_ico 2 0 rfl rfl rfl ?_
          refine mE_bip 4 19 rfl rfl rfl ?_
          refine mE_cs [.int w, .int 0, .int 19] [] rfl rfl rfl rfl rfl ?_
          refine mR_ix [(0, .int w), (1, .int 0), (2, .int 19)] rfl rfl rfl ?_
          refine mE_ildn 1 rfl rfl rfl rfl ?_
          refine mE_ildn 2 rfl rfl rfl rfl ?_
          refine mE_ic_lt rfl (fun h15 => ?_) (fun h15 => ?_)
          ·
            have h15 : w < (0 : Int32) := h15
            exfalso
            simp only [Int32.not_le, Int32.not_lt, Int32.le_iff_toInt_le, Int32.lt_iff_toInt_lt, mi_m1, mi_0, mi_1, mi_2, mi_4, mi_7, mi_9, mi_19, mi_40, mi_60, mi_2000, mi_10000] at h0 h1 h11 h12 h15
            all_goals omega
          ·
            have h15 : ¬ (w < (0 : Int32)) := h15
            refine mE_ildn 6 rfl rfl rfl rfl ?_
            refine mE_ildn 7 rfl rfl rfl rfl ?_
            refine mE_ic_gt rfl (fun h16 => ?_) (fun h16 => ?_)
            ·
              have h16 : (19 : Int32) < w := h16
              exfalso
              simp only [Int32.not_le, Int32.not_lt, Int32.le_iff_toInt_le, Int32.lt_iff_toInt_lt, mi_m1, mi_0, mi_1, mi_2, mi_4, mi_7, mi_9, mi_19, mi_40, mi_60, mi_2000, mi_10000] at h0 h1 h11 h12 h15 h16
              all_goals omega
            ·
              have h16 : ¬ ((19 : Int32) < w) := h16
              refine mE_ico 11 1 rfl rfl rfl ?_
              refine mE_goto 15 rfl rfl ?_
              refine mE_iret rfl ⟨rfl, ?_⟩
              refine mE_if_eq_f 10 rfl (by decide) rfl ?_
              refine mE_ildn 11 rfl rfl rfl rfl ?_
              refine mE_ico 12 0 rfl rfl rfl ?_
              refine mE_bip 14 9 rfl rfl rfl ?_
              refine mE_cs [.int r, .int 0, .int 9] [] rfl rfl rfl rfl rfl ?_
              refine mR_ix [(0, .int r), (1, .int 0), (2, .int 9)] rfl rfl rfl ?_
              refine mE_ildn 1 rfl rfl rfl rfl ?_
              refine mE_ildn 2 rfl rfl rfl rfl ?_
              refine mE_ic_lt rfl (fun h17 => ?_) (fun h17 => ?_)
              ·
                have h17 : r < (0 : Int32) := h17
                exfalso
                simp only [Int32.not_le, Int32.not_lt, Int32.le_iff_toInt_le, Int32.lt_iff_toInt_lt, mi_m1, mi_0, mi_1, mi_2, mi_4, mi_7, mi_9, mi_19, mi_40, mi_60, mi_2000, mi_10000] at h2 h13 h14 h17
                all_goals omega
              ·
                have h17 : ¬ (r < (0 : Int32)) := h17
                refine mE_ildn 6 rfl rfl rfl rfl ?_
                refine mE_ildn 7 rfl rfl rfl rfl ?_
                refine mE_ic_gt rfl (fun h18 => ?_) (fun h18 => ?_)
                ·
                  have h18 : (9 : Int32) < r := h18
                  refine mE_ico 15 0 rfl rfl rfl ?_
                  refine mE_iret rfl ⟨rfl, ?_⟩
                  refine mE_if_ne_f 20 rfl (by decide) rfl ?_
                  refine mE_ico 21 (-1) rfl rfl rfl ?_
                  exact mE_iret rfl ⟨rfl, _, rfl, rfl, Nat.le_of_ble_eq_true rfl, Nat.le_of_ble_eq_true rfl⟩
                ·
                  have h18 : ¬ ((9 : Int32) < r) := h18
                  exfalso
                  simp only [Int32.not_le, Int32.not_lt, Int32.le_iff_toInt_le, Int32.lt_iff_toInt_lt, mi_m1, mi_0, mi_1, mi_2, mi_4, mi_7, mi_9, mi_19, mi_40, mi_60, mi_2000, mi_10000] at h2 h13 h14 h17 h18
                  all_goals omega
        ·
          have h14 : ¬ ((9 : Int32) < r) := h14
          exfalso
          simp only [Int32.not_le, Int32.not_lt, Int32.le_iff_toInt_le, Int32.lt_iff_toInt_lt, mi_m1, mi_0, mi_1, mi_2, mi_4, mi_7, mi_9, mi_19, mi_40, mi_60, mi_2000, mi_10000] at h2 h13 h14
          all_goals omega

set_option maxHeartbeats 4000000 in
set_option maxRecDepth 100000 in
theorem b_feed_1 (v : Int32)  : mBoth 68 123 [.int 1, .int v] := by
  apply mBoth_of
  refine mR_ix [(0, .ref 0), (1, .int 1), (2, .int v)] rfl rfl rfl ?_
  refine mE_ildn 1 rfl rfl rfl rfl ?_
  refine mE_ico 2 1 rfl rfl rfl ?_
  refine mE_ico 3 4 rfl rfl rfl ?_
  refine mE_cs [.int 1, .int 1, .int 4] [] rfl rfl rfl rfl rfl ?_
  refine mR_ix [(0, .int 1), (1, .int 1), (2, .int 4)] rfl rfl rfl ?_
  refine mE_ildn 1 rfl rfl rfl rfl ?_
  refine mE_ildn 2 rfl rfl rfl rfl ?_
  refine mE_ic_lt_f 5 rfl (by decide) rfl ?_
  refine mE_ildn 6 rfl rfl rfl rfl ?_
  refine mE_ildn 7 rfl rfl rfl rfl ?_
  refine mE_ic_gt_f 10 rfl (by decide) rfl ?_
  refine mE_ico 11 1 rfl rfl rfl ?_
  refine mE_goto 15 rfl rfl ?_
  refine mE_iret rfl ⟨rfl, ?_⟩
  refine mE_if_ne_t 11 rfl (by decide) rfl ?_
  refine mE_aldn 12 rfl rfl rfl rfl ?_
  refine mE_gf 15 rfl rfl mh_0 rfl rfl ?_
  refine mE_gf 18 rfl rfl mh_6 rfl rfl ?_
  refine mE_ildn 19 rfl rfl rfl rfl ?_
  refine mE_iadd 20 1 rfl rfl rfl ?_
  refine mE_bip 22 60 rfl rfl rfl ?_
  refine mE_ic_le_t 28 rfl (by decide) rfl ?_
  refine mE_ico 29 0 rfl rfl rfl ?_
  refine mE_istn 30 [(3, .int 0), (0, .ref 0), (1, .int 1), (2, .int v)] rfl rfl rfl rfl ?_
  refine mE_ildn 31 rfl rfl rfl rfl ?_
  refine mE_ildn 32 rfl rfl rfl rfl ?_
  refine mE_ic_ge_f 35 rfl (by decide) rfl ?_
  refine mE_aldn 36 rfl rfl rfl rfl ?_
  refine mE_gf 39 rfl rfl mh_0 rfl rfl ?_
  refine mE_ildn 40 rfl rfl rfl rfl ?_
  refine mE_bip 42 8 rfl rfl rfl ?_
  refine mE_ildn 43 rfl rfl rfl rfl ?_
  refine mE_imul 44 0 rfl rfl rfl ?_
  refine mE_iushr 45 _ rfl rfl rfl ?_
  refine mE_sip 48 255 rfl rfl rfl ?_
  refine mE_iand 49 _ rfl rfl rfl ?_
  refine mE_cv [.int _] [] rfl rfl rfl rfl mh_6 rfl ?_
  refine mR_ix [(0, .ref 6), (1, .int _)] rfl rfl rfl ?_
  refine mE_aldn 1 rfl rfl rfl rfl ?_
  refine mE_gf 4 rfl rfl mh_6 rfl rfl ?_
  refine mE_bip 6 60 rfl rfl rfl ?_
  refine mE_ic_ge_f 9 rfl (by decide) rfl ?_
  refine mE_aldn 10 rfl rfl rfl rfl ?_
  refine mE_gf 13 rfl rfl mh_6 rfl rfl ?_
  refine mE_aldn 14 rfl rfl rfl rfl ?_
  refine mE_gf 17 rfl rfl mh_6 rfl rfl ?_
  refine mE_ildn 18 rfl rfl rfl rfl ?_
  refine mE_isa 19 0 rfl mh_7 rfl (show ¬ ((0 : Int32) < 0 ∨ 60 ≤ 0) by decide) rfl ?_
  refine mE_aldn 20 rfl rfl rfl rfl ?_
  refine mE_dup 21 rfl rfl rfl ?_
  refine mE_gf 24 rfl rfl (mg_ne rfl mh_6) rfl rfl ?_
  refine mE_ico 25 1 rfl rfl rfl ?_
  refine mE_iadd 26 1 rfl rfl rfl ?_
  refine mE_pf 29 rfl (mg_ne rfl mh_6) rfl rfl ?_
  refine mE_vret rfl ⟨rfl, ?_⟩
  refine mE_iinc 55 1 [(3, .int 1), (0, .ref 0), (1, .int 1), (2, .int v)] rfl rfl rfl rfl rfl rfl ?_
  refine mE_goto 30 rfl rfl ?_
  refine mE_ildn 31 rfl rfl rfl rfl ?_
  refine mE_ildn 32 rfl rfl rfl rfl ?_
  refine mE_ic_ge_t 58 rfl (by decide) rfl ?_
  refine mE_aldn 59 rfl rfl rfl rfl ?_
  refine mE_gf 62 rfl rfl (mg_ne rfl (mg_ne rfl mh_0)) rfl rfl ?_
  refine mE_gf 65 rfl rfl (mg_eq (mg_ne rfl mh_6)) rfl rfl ?_
  refine mE_iret rfl ⟨rfl, ⟨_, (mg_ne rfl (mg_ne rfl mh_47))⟩, ?_⟩
  refine mR_ix [(0, .ref 47), (1, .int 1), (2, .int v)] rfl rfl rfl ?_
  refine mE_ildn 1 rfl rfl rfl rfl ?_
  refine mE_ico 2 1 rfl rfl rfl ?_
  refine mE_ico 3 4 rfl rfl rfl ?_
  refine mE_cs [.int 1, .int 1, .int 4] [] rfl rfl rfl rfl rfl ?_
  refine mR_ix [(0, .int 1), (1, .int 1), (2, .int 4)] rfl rfl rfl ?_
  refine mE_ildn 1 rfl rfl rfl rfl ?_
  refine mE_ildn 2 rfl rfl rfl rfl ?_
  refine mE_ic_lt_f 5 rfl (by decide) rfl ?_
  refine mE_ildn 6 rfl rfl rfl rfl ?_
  refine mE_ildn 7 rfl rfl rfl rfl ?_
  refine mE_ic_gt_f 10 rfl (by decide) rfl ?_
  refine mE_ico 11 1 rfl rfl rfl ?_
  refine mE_goto 15 rfl rfl ?_
  refine mE_iret rfl ⟨rfl, ?_⟩
  refine mE_if_ne_t 11 rfl (by decide) rfl ?_
  refine mE_aldn 12 rfl rfl rfl rfl ?_
  refine mE_gf 15 rfl rfl (mg_ne rfl (mg_ne rfl mh_47)) rfl rfl ?_
  refine mE_ildn 16 rfl rfl rfl rfl ?_
  refine mE_iadd 17 1 rfl rfl rfl ?_
  refine mE_bip 19 60 rfl rfl rfl ?_
  refine mE_ic_le_t 25 rfl (by decide) rfl ?_
  refine mE_ico 26 0 rfl rfl rfl ?_
  refine mE_istn 27 [(3, .int 0), (0, .ref 47), (1, .int 1), (2, .int v)] rfl rfl rfl rfl ?_
  refine mE_ildn 28 rfl rfl rfl rfl ?_
  refine mE_ildn 29 rfl rfl rfl rfl ?_
  refine mE_ic_ge_f 32 rfl (by decide) rfl ?_
  refine mE_aldn 33 rfl rfl rfl rfl ?_
  refine mE_gf 36 rfl rfl (mg_ne rfl (mg_ne rfl mh_47)) rfl rfl ?_
  refine mE_aldn 37 rfl rfl rfl rfl ?_
  refine mE_gf 40 rfl rfl (mg_ne rfl (mg_ne rfl mh_47)) rfl rfl ?_
  refine mE_ildn 41 rfl rfl rfl rfl ?_
  refine mE_bip 43 8 rfl rfl rfl ?_
  refine mE_ildn 44 rfl rfl rfl rfl ?_
  refine mE_imul 45 0 rfl rfl rfl ?_
  refine mE_ishr 46 _ rfl rfl rfl ?_
  refine mE_sip 49 255 rfl rfl rfl ?_
  refine mE_iand 50 _ rfl rfl rfl ?_
  refine mE_isa 51 0 rfl (mg_ne rfl (mg_ne rfl mh_67)) rfl (show ¬ ((0 : Int32) < 0 ∨ 60 ≤ 0) by decide) rfl ?_
  refine mE_aldn 52 rfl rfl rfl rfl ?_
  refine mE_dup 53 rfl rfl rfl ?_
  refine mE_gf 56 rfl rfl (mg_ne rfl (mg_ne rfl (mg_ne rfl mh_47))) rfl rfl ?_
  refine mE_ico 57 1 rfl rfl rfl ?_
  refine mE_iadd 58 1 rfl rfl rfl ?_
  refine mE_pf 61 rfl (mg_ne rfl (mg_ne rfl (mg_ne rfl mh_47))) rfl rfl ?_
  refine mE_iinc 64 1 [(3, .int 1), (0, .ref 47), (1, .int 1), (2, .int v)] rfl rfl rfl rfl rfl rfl ?_
  refine mE_goto 27 rfl rfl ?_
  refine mE_ildn 28 rfl rfl rfl rfl ?_
  refine mE_ildn 29 rfl rfl rfl rfl ?_
  refine mE_ic_ge_t 67 rfl (by decide) rfl ?_
  refine mE_aldn 68 rfl rfl rfl rfl ?_
  refine mE_gf 71 rfl rfl (mg_eq (mg_ne rfl (mg_ne rfl (mg_ne rfl mh_47)))) rfl rfl ?_
  exact mE_iret rfl ⟨rfl, _, rfl, rfl, by simp only [List.length_set, List.length_append]; exact Nat.le_of_ble_eq_true rfl, Nat.le_of_ble_eq_true rfl⟩

set_option maxHeartbeats 4000000 in
set_option maxRecDepth 100000 in
theorem b_feed_2 (v : Int32)  : mBoth 68 123 [.int 2, .int v] := by
  apply mBoth_of
  refine mR_ix [(0, .ref 0), (1, .int 2), (2, .int v)] rfl rfl rfl ?_
  refine mE_ildn 1 rfl rfl rfl rfl ?_
  refine mE_ico 2 1 rfl rfl rfl ?_
  refine mE_ico 3 4 rfl rfl rfl ?_
  refine mE_cs [.int 2, .int 1, .int 4] [] rfl rfl rfl rfl rfl ?_
  refine mR_ix [(0, .int 2), (1, .int 1), (2, .int 4)] rfl rfl rfl ?_
  refine mE_ildn 1 rfl rfl rfl rfl ?_
  refine mE_ildn 2 rfl rfl rfl rfl ?_
  refine mE_ic_lt_f 5 rfl (by decide) rfl ?_
  refine mE_ildn 6 rfl rfl rfl rfl ?_
  refine mE_ildn 7 rfl rfl rfl rfl ?_
  refine mE_ic_gt_f 10 rfl (by decide) rfl ?_
  refine mE_ico 11 1 rfl rfl rfl ?_
  refine mE_goto 15 rfl rfl ?_
  refine mE_iret rfl ⟨rfl, ?_⟩
  refine mE_if_ne_t 11 rfl (by decide) rfl ?_
  refine mE_aldn 12 rfl rfl rfl rfl ?_
  refine mE_gf 15 rfl rfl mh_0 rfl rfl ?_
  refine mE_gf 18 rfl rfl mh_6 rfl rfl ?_
  refine mE_ildn 19 rfl rfl rfl rfl ?_
  refine mE_iadd 20 2 rfl rfl rfl ?_
  refine mE_bip 22 60 rfl rfl rfl ?_
  refine mE_ic_le_t 28 rfl (by decide) rfl ?_
  refine mE_ico 29 0 rfl rfl rfl ?_
  refine mE_istn 30 [(3, .int 0), (0, .ref 0), (1, .int 2), (2, .int v)] rfl rfl rfl rfl ?_
  refine mE_ildn 31 rfl rfl rfl rfl ?_
  refine mE_ildn 32 rfl rfl rfl rfl ?_
  refine mE_ic_ge_f 35 rfl (by decide) rfl ?_
  refine mE_aldn 36 rfl rfl rfl rfl ?_
  refine mE_gf 39 rfl rfl mh_0 rfl rfl ?_
  refine mE_ildn 40 rfl rfl rfl rfl ?_
  refine mE_bip 42 8 rfl rfl rfl ?_
  refine mE_ildn 43 rfl rfl rfl rfl ?_
  refine mE_imul 44 0 rfl rfl rfl ?_
  refine mE_iushr 45 _ rfl rfl rfl ?_
  refine mE_sip 48 255 rfl rfl rfl ?_
  refine mE_iand 49 _ rfl rfl rfl ?_
  refine mE_cv [.int _] [] rfl rfl rfl rfl mh_6 rfl ?_
  refine mR_ix [(0, .ref 6), (1, .int _)] rfl rfl rfl ?_
  refine mE_aldn 1 rfl rfl rfl rfl ?_
  refine mE_gf 4 rfl rfl mh_6 rfl rfl ?_
  refine mE_bip 6 60 rfl rfl rfl ?_
  refine mE_ic_ge_f 9 rfl (by decide) rfl ?_
  refine mE_aldn 10 rfl rfl rfl rfl ?_
  refine mE_gf 13 rfl rfl mh_6 rfl rfl ?_
  refine mE_aldn 14 rfl rfl rfl rfl ?_
  refine mE_gf 17 rfl rfl mh_6 rfl rfl ?_
  refine mE_ildn 18 rfl rfl rfl rfl ?_
  refine mE_isa 19 0 rfl mh_7 rfl (show ¬ ((0 : Int32) < 0 ∨ 60 ≤ 0) by decide) rfl ?_
  refine mE_aldn 20 rfl rfl rfl rfl ?_
  refine mE_dup 21 rfl rfl rfl ?_
  refine mE_gf 24 rfl rfl (mg_ne rfl mh_6) rfl rfl ?_
  refine mE_ico 25 1 rfl rfl rfl ?_
  refine mE_iadd 26 1 rfl rfl rfl ?_
  refine mE_pf 29 rfl (mg_ne rfl mh_6) rfl rfl ?_
  refine mE_vret rfl ⟨rfl, ?_⟩
  refine mE_iinc 55 1 [(3, .int 1), (0, .ref 0), (1, .int 2), (2, .int v)] rfl rfl rfl rfl rfl rfl ?_
  refine mE_goto 30 rfl rfl ?_
  refine mE_ildn 31 rfl rfl rfl rfl ?_
  refine mE_ildn 32 rfl rfl rfl rfl ?_
  refine mE_ic_ge_f 35 rfl (by decide) rfl ?_
  refine mE_aldn 36 rfl rfl rfl rfl ?_
  refine mE_gf 39 rfl rfl (mg_ne rfl (mg_ne rfl mh_0)) rfl rfl ?_
  refine mE_ildn 40 rfl rfl rfl rfl ?_
  refine mE_bip 42 8 rfl rfl rfl ?_
  refine mE_ildn 43 rfl rfl rfl rfl ?_
  refine mE_imul 44 8 rfl rfl rfl ?_
  refine mE_iushr 45 _ rfl rfl rfl ?_
  refine mE_sip 48 255 rfl rfl rfl ?_
  refine mE_iand 49 _ rfl rfl rfl ?_
  refine mE_cv [.int _] [] rfl rfl rfl rfl (mg_eq (mg_ne rfl mh_6)) rfl ?_
  refine mR_ix [(0, .ref 6), (1, .int _)] rfl rfl rfl ?_
  refine mE_aldn 1 rfl rfl rfl rfl ?_
  refine mE_gf 4 rfl rfl (mg_eq (mg_ne rfl mh_6)) rfl rfl ?_
  refine mE_bip 6 60 rfl rfl rfl ?_
  refine mE_ic_ge_f 9 rfl (by decide) rfl ?_
  refine mE_aldn 10 rfl rfl rfl rfl ?_
  refine mE_gf 13 rfl rfl (mg_eq (mg_ne rfl mh_6)) rfl rfl ?_
  refine mE_aldn 14 rfl rfl rfl rfl ?_
  refine mE_gf 17 rfl rfl (mg_eq (mg_ne rfl mh_6)) rfl rfl ?_
  refine mE_ildn 18 rfl rfl rfl rfl ?_
  refine mE_isa 19 1 rfl (mg_ne rfl (mg_eq mh_7)) rfl (show ¬ ((1 : Int32) < 0 ∨ 60 ≤ 1) by decide) rfl ?_
  refine mE_aldn 20 rfl rfl rfl rfl ?_
  refine mE_dup 21 rfl rfl rfl ?_
  refine mE_gf 24 rfl rfl (mg_ne rfl (mg_eq (mg_ne rfl mh_6))) rfl rfl ?_
  refine mE_ico 25 1 rfl rfl rfl ?_
  refine mE_iadd 26 2 rfl rfl rfl ?_
  refine mE_pf 29 rfl (mg_ne rfl (mg_eq (mg_ne rfl mh_6))) rfl rfl ?_
  refine mE_vret rfl ⟨rfl, ?_⟩
  refine mE_iinc 55 2 [(3, .int 2), (0, .ref 0), (1, .int 2), (2, .int v)] rfl rfl rfl rfl rfl rfl ?_
  refine mE_goto 30 rfl rfl ?_
  refine mE_ildn 31 rfl rfl rfl rfl ?_
  refine mE_ildn 32 rfl rfl rfl rfl ?_
  refine mE_ic_ge_t 58 rfl (by decide) rfl ?_
  refine mE_aldn 59 rfl rfl rfl rfl ?_
  refine mE_gf 62 rfl rfl (mg_ne rfl (mg_ne rfl (mg_ne rfl (mg_ne rfl mh_0)))) rfl rfl ?_
  refine mE_gf 65 rfl rfl (mg_eq (mg_ne rfl (mg_eq (mg_ne rfl mh_6)))) rfl rfl ?_
  refine mE_iret rfl ⟨rfl, ⟨_, (mg_ne rfl (mg_ne rfl (mg_ne rfl (mg_ne rfl mh_47))))⟩, ?_⟩
  refine mR_ix [(0, .ref 47), (1, .int 2), (2, .int v)] rfl rfl rfl ?_
  refine mE_ildn 1 rfl rfl rfl rfl ?_
  refine mE_ico 2 1 rfl rfl rfl ?_
  refine mE_ico 3 4 rfl rfl rfl ?_
  refine mE_cs [.int 2, .int 1, .int 4] [] rfl rfl rfl rfl rfl ?_
  refine mR_ix [(0, .int 2), (1, .int 1), (2, .int 4)] rfl rfl rfl ?_
  refine mE_ildn 1 rfl rfl rfl rfl ?_
  refine mE_ildn 2 rfl rfl rfl rfl ?_
  refine mE_ic_lt_f 5 rfl (by decide) rfl ?_
  refine mE_ildn 6 rfl rfl rfl rfl ?_
  refine mE_ildn 7 rfl rfl rfl rfl ?_
  refine mE_ic_gt_f 10 rfl (by decide) rfl ?_
  refine mE_ico 11 1 rfl rfl rfl ?_
  refine mE_goto 15 rfl rfl ?_
  refine mE_iret rfl ⟨rfl, ?_⟩
  refine mE_if_ne_t 11 rfl (by decide) rfl ?_
  refine mE_aldn 12 rfl rfl rfl rfl ?_
  refine mE_gf 15 rfl rfl (mg_ne rfl (mg_ne rfl (mg_ne rfl (mg_ne rfl mh_47)))) rfl rfl ?_
  refine mE_ildn 16 rfl rfl rfl rfl ?_
  refine mE_iadd 17 2 rfl rfl rfl ?_
  refine mE_bip 19 60 rfl rfl rfl ?_
  refine mE_ic_le_t 25 rfl (by decide) rfl ?_
  refine mE_ico 26 0 rfl rfl rfl ?_
  refine mE_istn 27 [(3, .int 0), (0, .ref 47), (1, .int 2), (2, .int v)] rfl rfl rfl rfl ?_
  refine mE_ildn 28 rfl rfl rfl rfl ?_
  refine mE_ildn 29 rfl rfl rfl rfl ?_
  refine mE_ic_ge_f 32 rfl (by decide) rfl ?_
  refine mE_aldn 33 rfl rfl rfl rfl ?_
  refine mE_gf 36 rfl rfl (mg_ne rfl (mg_ne rfl (mg_ne rfl (mg_ne rfl mh_47)))) rfl rfl ?_
  refine mE_aldn 37 rfl rfl rfl rfl ?_
  refine mE_gf 40 rfl rfl (mg_ne rfl (mg_ne rfl (mg_ne rfl (mg_ne rfl mh_47)))) rfl rfl ?_
  refine mE_ildn 41 rfl rfl rfl rfl ?_
  refine mE_bip 43 8 rfl rfl rfl ?_
  refine mE_ildn 44 rfl rfl rfl rfl ?_
  refine mE_imul 45 0 rfl rfl rfl ?_
  refine mE_ishr 46 _ rfl rfl rfl ?_
  refine mE_sip 49 255 rfl rfl rfl ?_
  refine mE_iand 50 _ rfl rfl rfl ?_
  refine mE_isa 51 0 rfl (mg_ne rfl (mg_ne rfl (mg_ne rfl (mg_ne rfl mh_67)))) rfl (show ¬ ((0 : Int32) < 0 ∨ 60 ≤ 0) by decide) rfl ?_
  refine mE_aldn 52 rfl rfl rfl rfl ?_
  refine mE_dup 53 rfl rfl rfl ?_
  refine mE_gf 56 rfl rfl (mg_ne rfl (mg_ne rfl (mg_ne rfl (mg_ne rfl (mg_ne rfl mh_47))))) rfl rfl ?_
  refine mE_ico 57 1 rfl rfl rfl ?_
  refine mE_iadd 58 1 rfl rfl rfl ?_
  refine mE_pf 61 rfl (mg_ne rfl (mg_ne rfl (mg_ne rfl (mg_ne rfl (mg_ne rfl mh_47))))) rfl rfl ?_
  refine mE_iinc 64 1 [(3, .int 1), (0, .ref 47), (1, .int 2), (2, .int v)] rfl rfl rfl rfl rfl rfl ?_
  refine mE_goto 27 rfl rfl ?_
  refine mE_ildn 28 rfl rfl rfl rfl ?_
  refine mE_ildn 29 rfl rfl rfl rfl ?_
  refine mE_ic_ge_f 32 rfl (by decide) rfl ?_
  refine mE_aldn 33 rfl rfl rfl rfl ?_
  refine mE_gf 36 rfl rfl (mg_eq (mg_ne rfl (mg_ne rfl (mg_ne rfl (mg_ne rfl (mg_ne rfl mh_47)))))) rfl rfl ?_
  refine mE_aldn 37 rfl rfl rfl rfl ?_
  refine mE_gf 40 rfl rfl (mg_eq (mg_ne rfl (mg_ne rfl (mg_ne rfl (mg_ne rfl (mg_ne rfl mh_47)))))) rfl rfl ?_
  refine mE_ildn 41 rfl rfl rfl rfl ?_
  refine mE_bip 43 8 rfl rfl rfl ?_
  refine mE_ildn 44 rfl rfl rfl rfl ?_
  refine mE_imul 45 8 rfl rfl rfl ?_
  refine mE_ishr 46 _ rfl rfl rfl ?_
  refine mE_sip 49 255 rfl rfl rfl ?_
  refine mE_iand 50 _ rfl rfl rfl ?_
  refine mE_isa 51 1 rfl (mg_ne rfl (mg_eq (mg_ne rfl (mg_ne rfl (mg_ne rfl (mg_ne rfl mh_67)))))) rfl (show ¬ ((1 : Int32) < 0 ∨ 60 ≤ 1) by decide) rfl ?_
  refine mE_aldn 52 rfl rfl rfl rfl ?_
  refine mE_dup 53 rfl rfl rfl ?_
  refine mE_gf 56 rfl rfl (mg_ne rfl (mg_eq (mg_ne rfl (mg_ne rfl (mg_ne rfl (mg_ne rfl (mg_ne rfl mh_47))))))) rfl rfl ?_
  refine mE_ico 57 1 rfl rfl rfl ?_
  refine mE_iadd 58 2 rfl rfl rfl ?_
  refine mE_pf 61 rfl (mg_ne rfl (mg_eq (mg_ne rfl (mg_ne rfl (mg_ne rfl (mg_ne rfl (mg_ne rfl mh_47))))))) rfl rfl ?_
  refine mE_iinc 64 2 [(3, .int 2), (0, .ref 47), (1, .int 2), (2, .int v)] rfl rfl rfl rfl rfl rfl ?_
  refine mE_goto 27 rfl rfl ?_
  refine mE_ildn 28 rfl rfl rfl rfl ?_
  refine mE_ildn 29 rfl rfl rfl rfl ?_
  refine mE_ic_ge_t 67 rfl (by decide) rfl ?_
  refine mE_aldn 68 rfl rfl rfl rfl ?_
  refine mE_gf 71 rfl rfl (mg_eq (mg_ne rfl (mg_eq (mg_ne rfl (mg_ne rfl (mg_ne rfl (mg_ne rfl (mg_ne rfl mh_47)))))))) rfl rfl ?_
  exact mE_iret rfl ⟨rfl, _, rfl, rfl, by simp only [List.length_set, List.length_append]; exact Nat.le_of_ble_eq_true rfl, Nat.le_of_ble_eq_true rfl⟩

set_option maxHeartbeats 4000000 in
set_option maxRecDepth 100000 in
theorem b_feed_3 (v : Int32)  : mBoth 68 123 [.int 3, .int v] := by
  apply mBoth_of
  refine mR_ix [(0, .ref 0), (1, .int 3), (2, .int v)] rfl rfl rfl ?_
  refine mE_ildn 1 rfl rfl rfl rfl ?_
  refine mE_ico 2 1 rfl rfl rfl ?_
  refine mE_ico 3 4 rfl rfl rfl ?_
  refine mE_cs [.int 3, .int 1, .int 4] [] rfl rfl rfl rfl rfl ?_
  refine mR_ix [(0, .int 3), (1, .int 1), (2, .int 4)] rfl rfl rfl ?_
  refine mE_ildn 1 rfl rfl rfl rfl ?_
  refine mE_ildn 2 rfl rfl rfl rfl ?_
  refine mE_ic_lt_f 5 rfl (by decide) rfl ?_
  refine mE_ildn 6 rfl rfl rfl rfl ?_
  refine mE_ildn 7 rfl rfl rfl rfl ?_
  refine mE_ic_gt_f 10 rfl (by decide) rfl ?_
  refine mE_ico 11 1 rfl rfl rfl ?_
  refine mE_goto 15 rfl rfl ?_
  refine mE_iret rfl ⟨rfl, ?_⟩
  refine mE_if_ne_t 11 rfl (by decide) rfl ?_
  refine mE_aldn 12 rfl rfl rfl rfl ?_
  refine mE_gf 15 rfl rfl mh_0 rfl rfl ?_
  refine mE_gf 18 rfl rfl mh_6 rfl rfl ?_
  refine mE_ildn 19 rfl rfl rfl rfl ?_
  refine mE_iadd 20 3 rfl rfl rfl ?_
  refine mE_bip 22 60 rfl rfl rfl ?_
  refine mE_ic_le_t 28 rfl (by decide) rfl ?_
  refine mE_ico 29 0 rfl rfl rfl ?_
  refine mE_istn 30 [(3, .int 0), (0, .ref 0), (1, .int 3), (2, .int v)] rfl rfl rfl rfl ?_
  refine mE_ildn 31 rfl rfl rfl rfl ?_
  refine mE_ildn 32 rfl rfl rfl rfl ?_
  refine mE_ic_ge_f 35 rfl (by decide) rfl ?_
  refine mE_aldn 36 rfl rfl rfl rfl ?_
  refine mE_gf 39 rfl rfl mh_0 rfl rfl ?_
  refine mE_ildn 40 rfl rfl rfl rfl ?_
  refine mE_bip 42 8 rfl rfl rfl ?_
  refine mE_ildn 43 rfl rfl rfl rfl ?_
  refine mE_imul 44 0 rfl rfl rfl ?_
  refine mE_iushr 45 _ rfl rfl rfl ?_
  refine mE_sip 48 255 rfl rfl rfl ?_
  refine mE_iand 49 _ rfl rfl rfl ?_
  refine mE_cv [.int _] [] rfl rfl rfl rfl mh_6 rfl ?_
  refine mR_ix [(0, .ref 6), (1, .int _)] rfl rfl rfl ?_
  refine mE_aldn 1 rfl rfl rfl rfl ?_
  refine mE_gf 4 rfl rfl mh_6 rfl rfl ?_
  refine mE_bip 6 60 rfl rfl rfl ?_
  refine mE_ic_ge_f 9 rfl (by decide) rfl ?_
  refine mE_aldn 10 rfl rfl rfl rfl ?_
  refine mE_gf 13 rfl rfl mh_6 rfl rfl ?_
  refine mE_aldn 14 rfl rfl rfl rfl ?_
  refine mE_gf 17 rfl rfl mh_6 rfl rfl ?_
  refine mE_ildn 18 rfl rfl rfl rfl ?_
  refine mE_isa 19 0 rfl mh_7 rfl (show ¬ ((0 : Int32) < 0 ∨ 60 ≤ 0) by decide) rfl ?_
  refine mE_aldn 20 rfl rfl rfl rfl ?_
  refine mE_dup 21 rfl rfl rfl ?_
  refine mE_gf 24 rfl rfl (mg_ne rfl mh_6) rfl rfl ?_
  refine mE_ico 25 1 rfl rfl rfl ?_
  refine mE_iadd 26 1 rfl rfl rfl ?_
  refine mE_pf 29 rfl (mg_ne rfl mh_6) rfl rfl ?_
  refine mE_vret rfl ⟨rfl, ?_⟩
  refine mE_iinc 55 1 [(3, .int 1), (0, .ref 0), (1, .int 3), (2, .int v)] rfl rfl rfl rfl rfl rfl ?_
  refine mE_goto 30 rfl rfl ?_
  refine mE_ildn 31 rfl rfl rfl rfl ?_
  refine mE_ildn 32 rfl rfl rfl rfl ?_
  refine mE_ic_ge_f 35 rfl (by decide) rfl ?_
  refine mE_aldn 36 rfl rfl rfl rfl ?_
  refine mE_gf 39 rfl rfl (mg_ne rfl (mg_ne rfl mh_0)) rfl rfl ?_
  refine mE_ildn 40 rfl rfl rfl rfl ?_
  refine mE_bip 42 8 rfl rfl rfl ?_
  refine mE_ildn 43 rfl rfl rfl rfl ?_
  refine mE_imul 44 8 rfl rfl rfl ?_
  refine mE_iushr 45 _ rfl rfl rfl ?_
  refine mE_sip 48 255 rfl rfl rfl ?_
  refine mE_iand 49 _ rfl rfl rfl ?_
  refine mE_cv [.int _] [] rfl rfl rfl rfl (mg_eq (mg_ne rfl mh_6)) rfl ?_
  refine mR_ix [(0, .ref 6), (1, .int _)] rfl rfl rfl ?_
  refine mE_aldn 1 rfl rfl rfl rfl ?_
  refine mE_gf 4 rfl rfl (mg_eq (mg_ne rfl mh_6)) rfl rfl ?_
  refine mE_bip 6 60 rfl rfl rfl ?_
  refine mE_ic_ge_f 9 rfl (by decide) rfl ?_
  refine mE_aldn 10 rfl rfl rfl rfl ?_
  refine mE_gf 13 rfl rfl (mg_eq (mg_ne rfl mh_6)) rfl rfl ?_
  refine mE_aldn 14 rfl rfl rfl rfl ?_
  refine mE_gf 17 rfl rfl (mg_eq (mg_ne rfl mh_6)) rfl rfl ?_
  refine mE_ildn 18 rfl rfl rfl rfl ?_
  refine mE_isa 19 1 rfl (mg_ne rfl (mg_eq mh_7)) rfl (show ¬ ((1 : Int32) < 0 ∨ 60 ≤ 1) by decide) rfl ?_
  refine mE_aldn 20 rfl rfl rfl rfl ?_
  refine mE_dup 21 rfl rfl rfl ?_
  refine mE_gf 24 rfl rfl (mg_ne rfl (mg_eq (mg_ne rfl mh_6))) rfl rfl ?_
  refine mE_ico 25 1 rfl rfl rfl ?_
  refine mE_iadd 26 2 rfl rfl rfl ?_
  refine mE_pf 29 rfl (mg_ne rfl (mg_eq (mg_ne rfl mh_6))) rfl rfl ?_
  refine mE_vret rfl ⟨rfl, ?_⟩
  refine mE_iinc 55 2 [(3, .int 2), (0, .ref 0), (1, .int 3), (2, .int v)] rfl rfl rfl rfl rfl rfl ?_
  refine mE_goto 30 rfl rfl ?_
  refine mE_ildn 31 rfl rfl rfl rfl ?_
  refine mE_ildn 32 rfl rfl rfl rfl ?_
  refine mE_ic_ge_f 35 rfl (by decide) rfl ?_
  refine mE_aldn 36 rfl rfl rfl rfl ?_
  refine mE_gf 39 rfl rfl (mg_ne rfl (mg_ne rfl (mg_ne rfl (mg_ne rfl mh_0)))) rfl rfl ?_
  refine mE_ildn 40 rfl rfl rfl rfl ?_
  refine mE_bip 42 8 rfl rfl rfl ?_
  refine mE_ildn 43 rfl rfl rfl rfl ?_
  refine mE_imul 44 16 rfl rfl rfl ?_
  refine mE_iushr 45 _ rfl rfl rfl ?_
  refine mE_sip 48 255 rfl rfl rfl ?_
  refine mE_iand 49 _ rfl rfl rfl ?_
  refine mE_cv [.int _] [] rfl rfl rfl rfl (mg_eq (mg_ne rfl (mg_eq (mg_ne rfl mh_6)))) rfl ?_
  refine mR_ix [(0, .ref 6), (1, .int _)] rfl rfl rfl ?_
  refine mE_aldn 1 rfl rfl rfl rfl ?_
  refine mE_gf 4 rfl rfl (mg_eq (mg_ne rfl (mg_eq (mg_ne rfl mh_6)))) rfl rfl ?_
  refine mE_bip 6 60 rfl rfl rfl ?_
  refine mE_ic_ge_f 9 rfl (by decide) rfl ?_
  refine mE_aldn 10 rfl rfl rfl rfl ?_
  refine mE_gf 13 rfl rfl (mg_eq (mg_ne rfl (mg_eq (mg_ne rfl mh_6)))) rfl rfl ?_
  refine mE_aldn 14 rfl rfl rfl rfl ?_
  refine mE_gf 17 rfl rfl (mg_eq (mg_ne rfl (mg_eq (mg_ne rfl mh_6)))) rfl rfl ?_
  refine mE_ildn 18 rfl rfl rfl rfl ?_
  refine mE_isa 19 2 rfl (mg_ne rfl (mg_eq (mg_ne rfl (mg_eq mh_7)))) rfl (show ¬ ((2 : Int32) < 0 ∨ 60 ≤ 2) by decide) rfl ?_
  refine mE_aldn 20 rfl rfl rfl rfl ?_
  refine mE_dup 21 rfl rfl rfl ?_
  refine mE_gf 24 rfl rfl (mg_ne rfl (mg_eq (mg_ne rfl (mg_eq (mg_ne rfl mh_6))))) rfl rfl ?_
  refine mE_ico 25 1 rfl rfl rfl ?_
  refine mE_iadd 26 3 rfl rfl rfl ?_
  refine mE_pf 29 rfl (mg_ne rfl (mg_eq (mg_ne rfl (mg_eq (mg_ne rfl mh_6))))) rfl rfl ?_
  refine mE_vret rfl ⟨rfl, ?_⟩
  refine mE_iinc 55 3 [(3, .int 3), (0, .ref 0), (1, .int 3), (2, .int v)] rfl rfl rfl rfl rfl rfl ?_
  refine mE_goto 30 rfl rfl ?_
  refine mE_ildn 31 rfl rfl rfl rfl ?_
  refine mE_ildn 32 rfl rfl rfl rfl ?_
  refine mE_ic_ge_t 58 rfl (by decide) rfl ?_
  refine mE_aldn 59 rfl rfl rfl rfl ?_
  refine mE_gf 62 rfl rfl (mg_ne rfl (mg_ne rfl (mg_ne rfl (mg_ne rfl (mg_ne rfl (mg_ne rfl mh_0)))))) rfl rfl ?_
  refine mE_gf 65 rfl rfl (mg_eq (mg_ne rfl (mg_eq (mg_ne rfl (mg_eq (mg_ne rfl mh_6)))))) rfl rfl ?_
  refine mE_iret rfl ⟨rfl, ⟨_, (mg_ne rfl (mg_ne rfl (mg_ne rfl (mg_ne rfl (mg_ne rfl (mg_ne rfl mh_47))))))⟩, ?_⟩
  refine mR_ix [(0, .ref 47), (1, .int 3), (2, .int v)] rfl rfl rfl ?_
  refine mE_ildn 1 rfl rfl rfl rfl ?_
  refine mE_ico 2 1 rfl rfl rfl ?_
  refine mE_ico 3 4 rfl rfl rfl ?_
  refine mE_cs [.int 3, .int 1, .int 4] [] rfl rfl rfl rfl rfl ?_
  refine mR_ix [(0, .int 3), (1, .int 1), (2, .int 4)] rfl rfl rfl ?_
  refine mE_ildn 1 rfl rfl rfl rfl ?_
  refine mE_ildn 2 rfl rfl rfl rfl ?_
  refine mE_ic_lt_f 5 rfl (by decide) rfl ?_
  refine mE_ildn 6 rfl rfl rfl rfl ?_
  refine mE_ildn 7 rfl rfl rfl rfl ?_
  refine mE_ic_gt_f 10 rfl (by decide) rfl ?_
  refine mE_ico 11 1 rfl rfl rfl ?_
  refine mE_goto 15 rfl rfl ?_
  refine mE_iret rfl ⟨rfl, ?_⟩
  refine mE_if_ne_t 11 rfl (by decide) rfl ?_
  refine mE_aldn 12 rfl rfl rfl rfl ?_
  refine mE_gf 15 rfl rfl (mg_ne rfl (mg_ne rfl (mg_ne rfl (mg_ne rfl (mg_ne rfl (mg_ne rfl mh_47)))))) rfl rfl ?_
  refine mE_ildn 16 rfl rfl rfl rfl ?_
  refine mE_iadd 17 3 rfl rfl rfl ?_
  refine mE_bip 19 60 rfl rfl rfl ?_
  refine mE_ic_le_t 25 rfl (by decide) rfl ?_
  refine mE_ico 26 0 rfl rfl rfl ?_
  refine mE_istn 27 [(3, .int 0), (0, .ref 47), (1, .int 3), (2, .int v)] rfl rfl rfl rfl ?_
  refine mE_ildn 28 rfl rfl rfl rfl ?_
  refine mE_ildn 29 rfl rfl rfl rfl ?_
  refine mE_ic_ge_f 32 rfl (by decide) rfl ?_
  refine mE_aldn 33 rfl rfl rfl rfl ?_
  refine mE_gf 36 rfl rfl (mg_ne rfl (mg_ne rfl (mg_ne rfl (mg_ne rfl (mg_ne rfl (mg_ne rfl mh_47)))))) rfl rfl ?_
  refine mE_aldn 37 rfl rfl rfl rfl ?_
  refine mE_gf 40 rfl rfl (mg_ne rfl (mg_ne rfl (mg_ne rfl (mg_ne rfl (mg_ne rfl (mg_ne rfl mh_47)))))) rfl rfl ?_
  refine mE_ildn 41 rfl rfl rfl rfl ?_
  refine mE_bip 43 8 rfl rfl rfl ?_
  refine mE_ildn 44 rfl rfl rfl rfl ?_
  refine mE_imul 45 0 rfl rfl rfl ?_
  refine mE_ishr 46 _ rfl rfl rfl ?_
  refine mE_sip 49 255 rfl rfl rfl ?_
  refine mE_iand 50 _ rfl rfl rfl ?_
  refine mE_isa 51 0 rfl (mg_ne rfl (mg_ne rfl (mg_ne rfl (mg_ne rfl (mg_ne rfl (mg_ne rfl mh_67)))))) rfl (show ¬ ((0 : Int32) < 0 ∨ 60 ≤ 0) by decide) rfl ?_
  refine mE_aldn 52 rfl rfl rfl rfl ?_
  refine mE_dup 53 rfl rfl rfl ?_
  refine mE_gf 56 rfl rfl (mg_ne rfl (mg_ne rfl (mg_ne rfl (mg_ne rfl (mg_ne rfl (mg_ne rfl (mg_ne rfl mh_47))))))) rfl rfl ?_
  refine mE_ico 57 1 rfl rfl rfl ?_
  refine mE_iadd 58 1 rfl rfl rfl ?_
  refine mE_pf 61 rfl (mg_ne rfl (mg_ne rfl (mg_ne rfl (mg_ne rfl (mg_ne rfl (mg_ne rfl (mg_ne rfl mh_47))))))) rfl rfl ?_
  refine mE_iinc 64 1 [(3, .int 1), (0, .ref 47), (1, .int 3), (2, .int v)] rfl rfl rfl rfl rfl rfl ?_
  refine mE_goto 27 rfl rfl ?_
  refine mE_ildn 28 rfl rfl rfl rfl ?_
  refine mE_ildn 29 rfl rfl rfl rfl ?_
  refine mE_ic_ge_f 32 rfl (by decide) rfl ?_
  refine mE_aldn 33 rfl rfl rfl rfl ?_
  refine mE_gf 36 rfl rfl (mg_eq (mg_ne rfl (mg_ne rfl (mg_ne rfl (mg_ne rfl (mg_ne rfl (mg_ne rfl (mg_ne rfl mh_47)))))))) rfl rfl ?_
  refine mE_aldn 37 rfl rfl rfl rfl ?_
  refine mE_gf 40 rfl rfl (mg_eq (mg_ne rfl (mg_ne rfl (mg_ne rfl (mg_ne rfl (mg_ne rfl (mg_ne rfl (mg_ne rfl mh_47)))))))) rfl rfl ?_
  refine mE_ildn 41 rfl rfl rfl rfl ?_
  refine mE_bip 43 8 rfl rfl rfl ?_
  refine mE_ildn 44 rfl rfl rfl rfl ?_
  refine mE_imul 45 8 rfl rfl rfl ?_
  refine mE_ishr 46 _ rfl rfl rfl ?_
  refine mE_sip 49 255 rfl rfl rfl ?_
  refine mE_iand 50 _ rfl rfl rfl ?_
  refine mE_isa 51 1 rfl (mg_ne rfl (mg_eq (mg_ne rfl (mg_ne rfl (mg_ne rfl (mg_ne rfl (mg_ne rfl (mg_ne rfl mh_67)))))))) rfl (show ¬ ((1 : Int32) < 0 ∨ 60 ≤ 1) by decide) rfl ?_
  refine mE_aldn 52 rfl rfl rfl rfl ?_
  refine mE_dup 53 rfl rfl rfl ?_
  refine mE_gf 56 rfl rfl (mg_ne rfl (mg_eq (mg_ne rfl (mg_ne rfl (mg_ne rfl (mg_ne rfl (mg_ne rfl (mg_ne rfl (mg_ne rfl mh_47))))))))) rfl rfl ?_
  refine mE_ico 57 1 rfl rfl rfl ?_
  refine mE_iadd 58 2 rfl rfl rfl ?_
  refine mE_pf 61 rfl (mg_ne rfl (mg_eq (mg_ne rfl (mg_ne rfl (mg_ne rfl (mg_ne rfl (mg_ne rfl (mg_ne rfl (mg_ne rfl mh_47))))))))) rfl rfl ?_
  refine mE_iinc 64 2 [(3, .int 2), (0, .ref 47), (1, .int 3), (2, .int v)] rfl rfl rfl rfl rfl rfl ?_
  refine mE_goto 27 rfl rfl ?_
  refine mE_ildn 28 rfl rfl rfl rfl ?_
  refine mE_ildn 29 rfl rfl rfl rfl ?_
  refine mE_ic_ge_f 32 rfl (by decide) rfl ?_
  refine mE_aldn 33 rfl rfl rfl rfl ?_
  refine mE_gf 36 rfl rfl (mg_eq (mg_ne rfl (mg_eq (mg_ne rfl (mg_ne rfl (mg_ne rfl (mg_ne rfl (mg_ne rfl (mg_ne rfl (mg_ne rfl mh_47)))))))))) rfl rfl ?_
  refine mE_aldn 37 rfl rfl rfl rfl ?_
  refine mE_gf 40 rfl rfl (mg_eq (mg_ne rfl (mg_eq (mg_ne rfl (mg_ne rfl (mg_ne rfl (mg_ne rfl (mg_ne rfl (mg_ne rfl (mg_ne rfl mh_47)))))))))) rfl rfl ?_
  refine mE_ildn 41 rfl rfl rfl rfl ?_
  refine mE_bip 43 8 rfl rfl rfl ?_
  refine mE_ildn 44 rfl rfl rfl rfl ?_
  refine mE_imul 45 16 rfl rfl rfl ?_
  refine mE_ishr 46 _ rfl rfl rfl ?_
  refine mE_sip 49 255 rfl rfl rfl ?_
  refine mE_iand 50 _ rfl rfl rfl ?_
  refine mE_isa 51 2 rfl (mg_ne rfl (mg_eq (mg_ne rfl (mg_eq (mg_ne rfl (mg_ne rfl (mg_ne rfl (mg_ne rfl (mg_ne rfl (mg_ne rfl mh_67)))))))))) rfl (show ¬ ((2 : Int32) < 0 ∨ 60 ≤ 2) by decide) rfl ?_
  refine mE_aldn 52 rfl rfl rfl rfl ?_
  refine mE_dup 53 rfl rfl rfl ?_
  refine mE_gf 56 rfl rfl (mg_ne rfl (mg_eq (mg_ne rfl (mg_eq (mg_ne rfl (mg_ne rfl (mg_ne rfl (mg_ne rfl (mg_ne rfl (mg_ne rfl (mg_ne rfl mh_47))))))))))) rfl rfl ?_
  refine mE_ico 57 1 rfl rfl rfl ?_
  refine mE_iadd 58 3 rfl rfl rfl ?_
  refine mE_pf 61 rfl (mg_ne rfl (mg_eq (mg_ne rfl (mg_eq (mg_ne rfl (mg_ne rfl (mg_ne rfl (mg_ne rfl (mg_ne rfl (mg_ne rfl (mg_ne rfl mh_47))))))))))) rfl rfl ?_
  refine mE_iinc 64 3 [(3, .int 3), (0, .ref 47), (1, .int 3), (2, .int v)] rfl rfl rfl rfl rfl rfl ?_
  refine mE_goto 27 rfl rfl ?_
  refine mE_ildn 28 rfl rfl rfl rfl ?_
  refine mE_ildn 29 rfl rfl rfl rfl ?_
  refine mE_ic_ge_t 67 rfl (by decide) rfl ?_
  refine mE_aldn 68 rfl rfl rfl rfl ?_
  refine mE_gf 71 rfl rfl (mg_eq (mg_ne rfl (mg_eq (mg_ne rfl (mg_eq (mg_ne rfl (mg_ne rfl (mg_ne rfl (mg_ne rfl (mg_ne rfl (mg_ne rfl (mg_ne rfl mh_47)))))))))))) rfl rfl ?_
  exact mE_iret rfl ⟨rfl, _, rfl, rfl, by simp only [List.length_set, List.length_append]; exact Nat.le_of_ble_eq_true rfl, Nat.le_of_ble_eq_true rfl⟩

set_option maxHeartbeats 4000000 in
set_option maxRecDepth 100000 in
theorem b_feed_4 (v : Int32)  : mBoth 68 123 [.int 4, .int v] := by
  apply mBoth_of
  refine mR_ix [(0, .ref 0), (1, .int 4), (2, .int v)] rfl rfl rfl ?_
  refine mE_ildn 1 rfl rfl rfl rfl ?_
  refine mE_ico 2 1 rfl rfl rfl ?_
  refine mE_ico 3 4 rfl rfl rfl ?_
  refine mE_cs [.int 4, .int 1, .int 4] [] rfl rfl rfl rfl rfl ?_
  refine mR_ix [(0, .int 4), (1, .int 1), (2, .int 4)] rfl rfl rfl ?_
  refine mE_ildn 1 rfl rfl rfl rfl ?_
  refine mE_ildn 2 rfl rfl rfl rfl ?_
  refine mE_ic_lt_f 5 rfl (by decide) rfl ?_
  refine mE_ildn 6 rfl rfl rfl rfl ?_
  refine mE_ildn 7 rfl rfl rfl rfl ?_
  refine mE_ic_gt_f 10 rfl (by decide) rfl ?_
  refine mE_ico 11 1 rfl rfl rfl ?_
  refine mE_goto 15 rfl rfl ?_
  refine mE_iret rfl ⟨rfl, ?_⟩
  refine mE_if_ne_t 11 rfl (by decide) rfl ?_
  refine mE_aldn 12 rfl rfl rfl rfl ?_
  refine mE_gf 15 rfl rfl mh_0 rfl rfl ?_
  refine mE_gf 18 rfl rfl mh_6 rfl rfl ?_
  refine mE_ildn 19 rfl rfl rfl rfl ?_
  refine mE_iadd 20 4 rfl rfl rfl ?_
  refine mE_bip 22 60 rfl rfl rfl ?_
  refine mE_ic_le_t 28 rfl (by decide) rfl ?_
  refine mE_ico 29 0 rfl rfl rfl ?_
  refine mE_istn 30 [(3, .int 0), (0, .ref 0), (1, .int 4), (2, .int v)] rfl rfl rfl rfl ?_
  refine mE_ildn 31 rfl rfl rfl rfl ?_
  refine mE_ildn 32 rfl rfl rfl rfl ?_
  refine mE_ic_ge_f 35 rfl (by decide) rfl ?_
  refine mE_aldn 36 rfl rfl rfl rfl ?_
  refine mE_gf 39 rfl rfl mh_0 rfl rfl ?_
  refine mE_ildn 40 rfl rfl rfl rfl ?_
  refine mE_bip 42 8 rfl rfl rfl ?_
  refine mE_ildn 43 rfl rfl rfl rfl ?_
  refine mE_imul 44 0 rfl rfl rfl ?_
  refine mE_iushr 45 _ rfl rfl rfl ?_
  refine mE_sip 48 255 rfl rfl rfl ?_
  refine mE_iand 49 _ rfl rfl rfl ?_
  refine mE_cv [.int _] [] rfl rfl rfl rfl mh_6 rfl ?_
  refine mR_ix [(0, .ref 6), (1, .int _)] rfl rfl rfl ?_
  refine mE_aldn 1 rfl rfl rfl rfl ?_
  refine mE_gf 4 rfl rfl mh_6 rfl rfl ?_
  refine mE_bip 6 60 rfl rfl rfl ?_
  refine mE_ic_ge_f 9 rfl (by decide) rfl ?_
  refine mE_aldn 10 rfl rfl rfl rfl ?_
  refine mE_gf 13 rfl rfl mh_6 rfl rfl ?_
  refine mE_aldn 14 rfl rfl rfl rfl ?_
  refine mE_gf 17 rfl rfl mh_6 rfl rfl ?_
  refine mE_ildn 18 rfl rfl rfl rfl ?_
  refine mE_isa 19 0 rfl mh_7 rfl (show ¬ ((0 : Int32) < 0 ∨ 60 ≤ 0) by decide) rfl ?_
  refine mE_aldn 20 rfl rfl rfl rfl ?_
  refine mE_dup 21 rfl rfl rfl ?_
  refine mE_gf 24 rfl rfl (mg_ne rfl mh_6) rfl rfl ?_
  refine mE_ico 25 1 rfl rfl rfl ?_
  refine mE_iadd 26 1 rfl rfl rfl ?_
  refine mE_pf 29 rfl (mg_ne rfl mh_6) rfl rfl ?_
  refine mE_vret rfl ⟨rfl, ?_⟩
  refine mE_iinc 55 1 [(3, .int 1), (0, .ref 0), (1, .int 4), (2, .int v)] rfl rfl rfl rfl rfl rfl ?_
  refine mE_goto 30 rfl rfl ?_
  refine mE_ildn 31 rfl rfl rfl rfl ?_
  refine mE_ildn 32 rfl rfl rfl rfl ?_
  refine mE_ic_ge_f 35 rfl (by decide) rfl ?_
  refine mE_aldn 36 rfl rfl rfl rfl ?_
  refine mE_gf 39 rfl rfl (mg_ne rfl (mg_ne rfl mh_0)) rfl rfl ?_
  refine mE_ildn 40 rfl rfl rfl rfl ?_
  refine mE_bip 42 8 rfl rfl rfl ?_
  refine mE_ildn 43 rfl rfl rfl rfl ?_
  refine mE_imul 44 8 rfl rfl rfl ?_
  refine mE_iushr 45 _ rfl rfl rfl ?_
  refine mE_sip 48 255 rfl rfl rfl ?_
  refine mE_iand 49 _ rfl rfl rfl ?_
  refine mE_cv [.int _] [] rfl rfl rfl rfl (mg_eq (mg_ne rfl mh_6)) rfl ?_
  refine mR_ix [(0, .ref 6), (1, .int _)] rfl rfl rfl ?_
  refine mE_aldn 1 rfl rfl rfl rfl ?_
  refine mE_gf 4 rfl rfl (mg_eq (mg_ne rfl mh_6)) rfl rfl ?_
  refine mE_bip 6 60 rfl rfl rfl ?_
  refine mE_ic_ge_f 9 rfl (by decide) rfl ?_
  refine mE_aldn 10 rfl rfl rfl rfl ?_
  refine mE_gf 13 rfl rfl (mg_eq (mg_ne rfl mh_6)) rfl rfl ?_
  refine mE_aldn 14 rfl rfl rfl rfl ?_
  refine mE_gf 17 rfl rfl (mg_eq (mg_ne rfl mh_6)) rfl rfl ?_
  refine mE_ildn 18 rfl rfl rfl rfl ?_
  refine mE_isa 19 1 rfl (mg_ne rfl (mg_eq mh_7)) rfl (show ¬ ((1 : Int32) < 0 ∨ 60 ≤ 1) by decide) rfl ?_
  refine mE_aldn 20 rfl rfl rfl rfl ?_
  refine mE_dup 21 rfl rfl rfl ?_
  refine mE_gf 24 rfl rfl (mg_ne rfl (mg_eq (mg_ne rfl mh_6))) rfl rfl ?_
  refine mE_ico 25 1 rfl rfl rfl ?_
  refine mE_iadd 26 2 rfl rfl rfl ?_
  refine mE_pf 29 rfl (mg_ne rfl (mg_eq (mg_ne rfl mh_6))) rfl rfl ?_
  refine mE_vret rfl ⟨rfl, ?_⟩
  refine mE_iinc 55 2 [(3, .int 2), (0, .ref 0), (1, .int 4), (2, .int v)] rfl rfl rfl rfl rfl rfl ?_
  refine mE_goto 30 rfl rfl ?_
  refine mE_ildn 31 rfl rfl rfl rfl ?_
  refine mE_ildn 32 rfl rfl rfl rfl ?_
  refine mE_ic_ge_f 35 rfl (by decide) rfl ?_
  refine mE_aldn 36 rfl rfl rfl rfl ?_
  refine mE_gf 39 rfl rfl (mg_ne rfl (mg_ne rfl (mg_ne rfl (mg_ne rfl mh_0)))) rfl rfl ?_
  refine mE_ildn 40 rfl rfl rfl rfl ?_
  refine mE_bip 42 8 rfl rfl rfl ?_
  refine mE_ildn 43 rfl rfl rfl rfl ?_
  refine mE_imul 44 16 rfl rfl rfl ?_
  refine mE_iushr 45 _ rfl rfl rfl ?_
  refine mE_sip 48 255 rfl rfl rfl ?_
  refine mE_iand 49 _ rfl rfl rfl ?_
  refine mE_cv [.int _] [] rfl rfl rfl rfl (mg_eq (mg_ne rfl (mg_eq (mg_ne rfl mh_6)))) rfl ?_
  refine mR_ix [(0, .ref 6), (1, .int _)] rfl rfl rfl ?_
  refine mE_aldn 1 rfl rfl rfl rfl ?_
  refine mE_gf 4 rfl rfl (mg_eq (mg_ne rfl (mg_eq (mg_ne rfl mh_6)))) rfl rfl ?_
  refine mE_bip 6 60 rfl rfl rfl ?_
  refine mE_ic_ge_f 9 rfl (by decide) rfl ?_
  refine mE_aldn 10 rfl rfl rfl rfl ?_
  refine mE_gf 13 rfl rfl (mg_eq (mg_ne rfl (mg_eq (mg_ne rfl mh_6)))) rfl rfl ?_
  refine mE_aldn 14 rfl rfl rfl rfl ?_
  refine mE_gf 17 rfl rfl (mg_eq (mg_ne rfl (mg_eq (mg_ne rfl mh_6)))) rfl rfl ?_
  refine mE_ildn 18 rfl rfl rfl rfl ?_
  refine mE_isa 19 2 rfl (mg_ne rfl (mg_eq (mg_ne rfl (mg_eq mh_7)))) rfl (show ¬ ((2 : Int32) < 0 ∨ 60 ≤ 2) by decide) rfl ?_
  refine mE_aldn 20 rfl rfl rfl rfl ?_
  refine mE_dup 21 rfl rfl rfl ?_
  refine mE_gf 24 rfl rfl (mg_ne rfl (mg_eq (mg_ne rfl (mg_eq (mg_ne rfl mh_6))))) rfl rfl ?_
  refine mE_ico 25 1 rfl rfl rfl ?_
  refine mE_iadd 26 3 rfl rfl rfl ?_
  refine mE_pf 29 rfl (mg_ne rfl (mg_eq (mg_ne rfl (mg_eq (mg_ne rfl mh_6))))) rfl rfl ?_
  refine mE_vret rfl ⟨rfl, ?_⟩
  refine mE_iinc 55 3 [(3, .int 3), (0, .ref 0), (1, .int 4), (2, .int v)] rfl rfl rfl rfl rfl rfl ?_
  refine mE_goto 30 rfl rfl ?_
  refine mE_ildn 31 rfl rfl rfl rfl ?_
  refine mE_ildn 32 rfl rfl rfl rfl ?_
  refine mE_ic_ge_f 35 rfl (by decide) rfl ?_
  refine mE_aldn 36 rfl rfl rfl rfl ?_
  refine mE_gf 39 rfl rfl (mg_ne rfl (mg_ne rfl (mg_ne rfl (mg_ne rfl (mg_ne rfl (mg_ne rfl mh_0)))))) rfl rfl ?_
  refine mE_ildn 40 rfl rfl rfl rfl ?_
  refine mE_bip 42 8 rfl rfl rfl ?_
  refine mE_ildn 43 rfl rfl rfl rfl ?_
  refine mE_imul 44 24 rfl rfl rfl ?_
  refine mE_iushr 45 _ rfl rfl rfl ?_
  refine mE_sip 48 255 rfl rfl rfl ?_
  refine mE_iand 49 _ rfl rfl rfl ?_
  refine mE_cv [.int _] [] rfl rfl rfl rfl (mg_eq (mg_ne rfl (mg_eq (mg_ne rfl (mg_eq (mg_ne rfl mh_6)))))) rfl ?_
  refine mR_ix [(0, .ref 6), (1, .int _)] rfl rfl rfl ?_
  refine mE_aldn 1 rfl rfl rfl rfl ?_
  refine mE_gf 4 rfl rfl (mg_eq (mg_ne rfl (mg_eq (mg_ne rfl (mg_eq (mg_ne rfl mh_6)))))) rfl rfl ?_
  refine mE_bip 6 60 rfl rfl rfl ?_
  refine mE_ic_ge_f 9 rfl (by decide) rfl ?_
  refine mE_aldn 10 rfl rfl rfl rfl ?_
  refine mE_gf 13 rfl rfl (mg_eq (mg_ne rfl (mg_eq (mg_ne rfl (mg_eq (mg_ne rfl mh_6)))))) rfl rfl ?_
  refine mE_aldn 14 rfl rfl rfl rfl ?_
  refine mE_gf 17 rfl rfl (mg_eq (mg_ne rfl (mg_eq (mg_ne rfl (mg_eq (mg_ne rfl mh_6)))))) rfl rfl ?_
  refine mE_ildn 18 rfl rfl rfl rfl ?_
  refine mE_isa 19 3 rfl (mg_ne rfl (mg_eq (mg_ne rfl (mg_eq (mg_ne rfl (mg_eq mh_7)))))) rfl (show ¬ ((3 : Int32) < 0 ∨ 60 ≤ 3) by decide) rfl ?_
  refine mE_aldn 20 rfl rfl rfl rfl ?_
  refine mE_dup 21 rfl rfl rfl ?_
  refine mE_gf 24 rfl rfl (mg_ne rfl (mg_eq (mg_ne rfl (mg_eq (mg_ne rfl (mg_eq (mg_ne rfl mh_6))))))) rfl rfl ?_
  refine mE_ico 25 1 rfl rfl rfl ?_
  refine mE_iadd 26 4 rfl rfl rfl ?_
  refine mE_pf 29 rfl (mg_ne rfl (mg_eq (mg_ne rfl (mg_eq (mg_ne rfl (mg_eq (mg_ne rfl mh_6))))))) rfl rfl ?_
  refine mE_vret rfl ⟨rfl, ?_⟩
  refine mE_iinc 55 4 [(3, .int 4), (0, .ref 0), (1, .int 4), (2, .int v)] rfl rfl rfl rfl rfl rfl ?_
  refine mE_goto 30 rfl rfl ?_
  refine mE_ildn 31 rfl rfl rfl rfl ?_
  refine mE_ildn 32 rfl rfl rfl rfl ?_
  refine mE_ic_ge_t 58 rfl (by decide) rfl ?_
  refine mE_aldn 59 rfl rfl rfl rfl ?_
  refine mE_gf 62 rfl rfl (mg_ne rfl (mg_ne rfl (mg_ne rfl (mg_ne rfl (mg_ne rfl (mg_ne rfl (mg_ne rfl (mg_ne rfl mh_0)))))))) rfl rfl ?_
  refine mE_gf 65 rfl rfl (mg_eq (mg_ne rfl (mg_eq (mg_ne rfl (mg_eq (mg_ne rfl (mg_eq (mg_ne rfl mh_6)))))))) rfl rfl ?_
  refine mE_iret rfl ⟨rfl, ⟨_, (mg_ne rfl (mg_ne rfl (mg_ne rfl (mg_ne rfl (mg_ne rfl (mg_ne rfl (mg_ne rfl (mg_ne rfl mh_47))))))))⟩, ?_⟩
  refine mR_ix [(0, .ref 47), (1, .int 4), (2, .int v)] rfl rfl rfl ?_
  refine mE_ildn 1 rfl rfl rfl rfl ?_
  refine mE_ico 2 1 rfl rfl rfl ?_
  refine mE_ico 3 4 rfl rfl rfl ?_
  refine mE_cs [.int 4, .int 1, .int 4] [] rfl rfl rfl rfl rfl ?_
  refine mR_ix [(0, .int 4), (1, .int 1), (2, .int 4)] rfl rfl rfl ?_
  refine mE_ildn 1 rfl rfl rfl rfl ?_
  refine mE_ildn 2 rfl rfl rfl rfl ?_
  refine mE_ic_lt_f 5 rfl (by decide) rfl ?_
  refine mE_ildn 6 rfl rfl rfl rfl ?_
  refine mE_ildn 7 rfl rfl rfl rfl ?_
  refine mE_ic_gt_f 10 rfl (by decide) rfl ?_
  refine mE_ico 11 1 rfl rfl rfl ?_
  refine mE_goto 15 rfl rfl ?_
  refine mE_iret rfl ⟨rfl, ?_⟩
  refine mE_if_ne_t 11 rfl (by decide) rfl ?_
  refine mE_aldn 12 rfl rfl rfl rfl ?_
  refine mE_gf 15 rfl rfl (mg_ne rfl (mg_ne rfl (mg_ne rfl (mg_ne rfl (mg_ne rfl (mg_ne rfl (mg_ne rfl (mg_ne rfl mh_47)))))))) rfl rfl ?_
  refine mE_ildn 16 rfl rfl rfl rfl ?_
  refine mE_iadd 17 4 rfl rfl rfl ?_
  refine mE_bip 19 60 rfl rfl rfl ?_
  refine mE_ic_le_t 25 rfl (by decide) rfl ?_
  refine mE_ico 26 0 rfl rfl rfl ?_
  refine mE_istn 27 [(3, .int 0), (0, .ref 47), (1, .int 4), (2, .int v)] rfl rfl rfl rfl ?_
  refine mE_ildn 28 rfl rfl rfl rfl ?_
  refine mE_ildn 29 rfl rfl rfl rfl ?_
  refine mE_ic_ge_f 32 rfl (by decide) rfl ?_
  refine mE_aldn 33 rfl rfl rfl rfl ?_
  refine mE_gf 36 rfl rfl (mg_ne rfl (mg_ne rfl (mg_ne rfl (mg_ne rfl (mg_ne rfl (mg_ne rfl (mg_ne rfl (mg_ne rfl mh_47)))))))) rfl rfl ?_
  refine mE_aldn 37 rfl rfl rfl rfl ?_
  refine mE_gf 40 rfl rfl (mg_ne rfl (mg_ne rfl (mg_ne rfl (mg_ne rfl (mg_ne rfl (mg_ne rfl (mg_ne rfl (mg_ne rfl mh_47)))))))) rfl rfl ?_
  refine mE_ildn 41 rfl rfl rfl rfl ?_
  refine mE_bip 43 8 rfl rfl rfl ?_
  refine mE_ildn 44 rfl rfl rfl rfl ?_
  refine mE_imul 45 0 rfl rfl rfl ?_
  refine mE_ishr 46 _ rfl rfl rfl ?_
  refine mE_sip 49 255 rfl rfl rfl ?_
  refine mE_iand 50 _ rfl rfl rfl ?_
  refine mE_isa 51 0 rfl (mg_ne rfl (mg_ne rfl (mg_ne rfl (mg_ne rfl (mg_ne rfl (mg_ne rfl (mg_ne rfl (mg_ne rfl mh_67)))))))) rfl (show ¬ ((0 : Int32) < 0 ∨ 60 ≤ 0) by decide) rfl ?_
  refine mE_aldn 52 rfl rfl rfl rfl ?_
  refine mE_dup 53 rfl rfl rfl ?_
  refine mE_gf 56 rfl rfl (mg_ne rfl (mg_ne rfl (mg_ne rfl (mg_ne rfl (mg_ne rfl (mg_ne rfl (mg_ne rfl (mg_ne rfl (mg_ne rfl mh_47))))))))) rfl rfl ?_
  refine mE_ico 57 1 rfl rfl rfl ?_
  refine mE_iadd 58 1 rfl rfl rfl ?_
  refine mE_pf 61 rfl (mg_ne rfl (mg_ne rfl (mg_ne rfl (mg_ne rfl (mg_ne rfl (mg_ne rfl (mg_ne rfl (mg_ne rfl (mg_ne rfl mh_47))))))))) rfl rfl ?_
  refine mE_iinc 64 1 [(3, .int 1), (0, .ref 47), (1, .int 4), (2, .int v)] rfl rfl rfl rfl rfl rfl ?_
  refine mE_goto 27 rfl rfl ?_
  refine mE_ildn 28 rfl rfl rfl rfl ?_
  refine mE_ildn 29 rfl rfl rfl rfl ?_
  refine mE_ic_ge_f 32 rfl (by decide) rfl ?_
  refine mE_aldn 33 rfl rfl rfl rfl ?_
  refine mE_gf 36 rfl rfl (mg_eq (mg_ne rfl (mg_ne rfl (mg_ne rfl (mg_ne rfl (mg_ne rfl (mg_ne rfl (mg_ne rfl (mg_ne rfl (mg_ne rfl mh_47)))))))))) rfl rfl ?_
  refine mE_aldn 37 rfl rfl rfl rfl ?_
  refine mE_gf 40 rfl rfl (mg_eq (mg_ne rfl (mg_ne rfl (mg_ne rfl (mg_ne rfl (mg_ne rfl (mg_ne rfl (mg_ne rfl (mg_ne rfl (mg_ne rfl mh_47)))))))))) rfl rfl ?_
  refine mE_ildn 41 rfl rfl rfl rfl ?_
  refine mE_bip 43 8 rfl rfl rfl ?_
  refine mE_ildn 44 rfl rfl rfl rfl ?_
  refine mE_imul 45 8 rfl rfl rfl ?_
  refine mE_ishr 46 _ rfl rfl rfl ?_
  refine mE_sip 49 255 rfl rfl rfl ?_
  refine mE_iand 50 _ rfl rfl rfl ?_
  refine mE_isa 51 1 rfl (mg_ne rfl (mg_eq (mg_ne rfl (mg_ne rfl (mg_ne rfl (mg_ne rfl (mg_ne rfl (mg_ne rfl (mg_ne rfl (mg_ne rfl mh_67)))))))))) rfl (show ¬ ((1 : Int32) < 0 ∨ 60 ≤ 1) by decide) rfl ?_
  refine mE_aldn 52 rfl rfl rfl rfl ?_
  refine mE_dup 53 rfl rfl rfl ?_
  refine mE_gf 56 rfl rfl (mg_ne rfl (mg_eq (mg_ne rfl (mg_ne rfl (mg_ne rfl (mg_ne rfl (mg_ne rfl (mg_ne rfl (mg_ne rfl (mg_ne rfl (mg_ne rfl mh_47))))))))))) rfl rfl ?_
  refine mE_ico 57 1 rfl rfl rfl ?_
  refine mE_iadd 58 2 rfl rfl rfl ?_
  refine mE_pf 61 rfl (mg_ne rfl (mg_eq (mg_ne rfl (mg_ne rfl (mg_ne rfl (mg_ne rfl (mg_ne rfl (mg_ne rfl (mg_ne rfl (mg_ne rfl (mg_ne rfl mh_47))))))))))) rfl rfl ?_
  refine mE_iinc 64 2 [(3, .int 2), (0, .ref 47), (1, .int 4), (2, .int v)] rfl rfl rfl rfl rfl rfl ?_
  refine mE_goto 27 rfl rfl ?_
  refine mE_ildn 28 rfl rfl rfl rfl ?_
  refine mE_ildn 29 rfl rfl rfl rfl ?_
  refine mE_ic_ge_f 32 rfl (by decide) rfl ?_
  refine mE_aldn 33 rfl rfl rfl rfl ?_
  refine mE_gf 36 rfl rfl (mg_eq (mg_ne rfl (mg_eq (mg_ne rfl (mg_ne rfl (mg_ne rfl (mg_ne rfl (mg_ne rfl (mg_ne rfl (mg_ne rfl (mg_ne rfl (mg_ne rfl mh_47)))))))))))) rfl rfl ?_
  refine mE_aldn 37 rfl rfl rfl rfl ?_
  refine mE_gf 40 rfl rfl (mg_eq (mg_ne rfl (mg_eq (mg_ne rfl (mg_ne rfl (mg_ne rfl (mg_ne rfl (mg_ne rfl (mg_ne rfl (mg_ne rfl (mg_ne rfl (mg_ne rfl mh_47)))))))))))) rfl rfl ?_
  refine mE_ildn 41 rfl rfl rfl rfl ?_
  refine mE_bip 43 8 rfl rfl rfl ?_
  refine mE_ildn 44 rfl rfl rfl rfl ?_
  refine mE_imul 45 16 rfl rfl rfl ?_
  refine mE_ishr 46 _ rfl rfl rfl ?_
  refine mE_sip 49 255 rfl rfl rfl ?_
  refine mE_iand 50 _ rfl rfl rfl ?_
  refine mE_isa 51 2 rfl (mg_ne rfl (mg_eq (mg_ne rfl (mg_eq (mg_ne rfl (mg_ne rfl (mg_ne rfl (mg_ne rfl (mg_ne rfl (mg_ne rfl (mg_ne rfl (mg_ne rfl mh_67)))))))))))) rfl (show ¬ ((2 : Int32) < 0 ∨ 60 ≤ 2) by decide) rfl ?_
  refine mE_aldn 52 rfl rfl rfl rfl ?_
  refine mE_dup 53 rfl rfl rfl ?_
  refine mE_gf 56 rfl rfl (mg_ne rfl (mg_eq (mg_ne rfl (mg_eq (mg_ne rfl (mg_ne rfl (mg_ne rfl (mg_ne rfl (mg_ne rfl (mg_ne rfl (mg_ne rfl (mg_ne rfl (mg_ne rfl mh_47))))))))))))) rfl rfl ?_
  refine mE_ico 57 1 rfl rfl rfl ?_
  refine mE_iadd 58 3 rfl rfl rfl ?_
  refine mE_pf 61 rfl (mg_ne rfl (mg_eq (mg_ne rfl (mg_eq (mg_ne rfl (mg_ne rfl (mg_ne rfl (mg_ne rfl (mg_ne rfl (mg_ne rfl (mg_ne rfl (mg_ne rfl (mg_ne rfl mh_47))))))))))))) rfl rfl ?_
  refine mE_iinc 64 3 [(3, .int 3), (0, .ref 47), (1, .int 4), (2, .int v)] rfl rfl rfl rfl rfl rfl ?_
  refine mE_goto 27 rfl rfl ?_
  refine mE_ildn 28 rfl rfl rfl rfl ?_
  refine mE_ildn 29 rfl rfl rfl rfl ?_
  refine mE_ic_ge_f 32 rfl (by decide) rfl ?_
  refine mE_aldn 33 rfl rfl rfl rfl ?_
  refine mE_gf 36 rfl rfl (mg_eq (mg_ne rfl (mg_eq (mg_ne rfl (mg_eq (mg_ne rfl (mg_ne rfl (mg_ne rfl (mg_ne rfl (mg_ne rfl (mg_ne rfl (mg_ne rfl (mg_ne rfl (mg_ne rfl mh_47)))))))))))))) rfl rfl ?_
  refine mE_aldn 37 rfl rfl rfl rfl ?_
  refine mE_gf 40 rfl rfl (mg_eq (mg_ne rfl (mg_eq (mg_ne rfl (mg_eq (mg_ne rfl (mg_ne rfl (mg_ne rfl (mg_ne rfl (mg_ne rfl (mg_ne rfl (mg_ne rfl (mg_ne rfl (mg_ne rfl mh_47)))))))))))))) rfl rfl ?_
  refine mE_ildn 41 rfl rfl rfl rfl ?_
  refine mE_bip 43 8 rfl rfl rfl ?_
  refine mE_ildn 44 rfl rfl rfl rfl ?_
  refine mE_imul 45 24 rfl rfl rfl ?_
  refine mE_ishr 46 _ rfl rfl rfl ?_
  refine mE_sip 49 255 rfl rfl rfl ?_
  refine mE_iand 50 _ rfl rfl rfl ?_
  refine mE_isa 51 3 rfl (mg_ne rfl (mg_eq (mg_ne rfl (mg_eq (mg_ne rfl (mg_eq (mg_ne rfl (mg_ne rfl (mg_ne rfl (mg_ne rfl (mg_ne rfl (mg_ne rfl (mg_ne rfl (mg_ne rfl mh_67)))))))))))))) rfl (show ¬ ((3 : Int32) < 0 ∨ 60 ≤ 3) by decide) rfl ?_
  refine mE_aldn 52 rfl rfl rfl rfl ?_
  refine mE_dup 53 rfl rfl rfl ?_
  refine mE_gf 56 rfl rfl (mg_ne rfl (mg_eq (mg_ne rfl (mg_eq (mg_ne rfl (mg_eq (mg_ne rfl (mg_ne rfl (mg_ne rfl (mg_ne rfl (mg_ne rfl (mg_ne rfl (mg_ne rfl (mg_ne rfl (mg_ne rfl mh_47))))))))))))))) rfl rfl ?_
  refine mE_ico 57 1 rfl rfl rfl ?_
  refine mE_iadd 58 4 rfl rfl rfl ?_
  refine mE_pf 61 rfl (mg_ne rfl (mg_eq (mg_ne rfl (mg_eq (mg_ne rfl (mg_eq (mg_ne rfl (mg_ne rfl (mg_ne rfl (mg_ne rfl (mg_ne rfl (mg_ne rfl (mg_ne rfl (mg_ne rfl (mg_ne rfl mh_47))))))))))))))) rfl rfl ?_
  refine mE_iinc 64 4 [(3, .int 4), (0, .ref 47), (1, .int 4), (2, .int v)] rfl rfl rfl rfl rfl rfl ?_
  refine mE_goto 27 rfl rfl ?_
  refine mE_ildn 28 rfl rfl rfl rfl ?_
  refine mE_ildn 29 rfl rfl rfl rfl ?_
  refine mE_ic_ge_t 67 rfl (by decide) rfl ?_
  refine mE_aldn 68 rfl rfl rfl rfl ?_
  refine mE_gf 71 rfl rfl (mg_eq (mg_ne rfl (mg_eq (mg_ne rfl (mg_eq (mg_ne rfl (mg_eq (mg_ne rfl (mg_ne rfl (mg_ne rfl (mg_ne rfl (mg_ne rfl (mg_ne rfl (mg_ne rfl (mg_ne rfl (mg_ne rfl mh_47)))))))))))))))) rfl rfl ?_
  exact mE_iret rfl ⟨rfl, _, rfl, rfl, by simp only [List.length_set, List.length_append]; exact Nat.le_of_ble_eq_true rfl, Nat.le_of_ble_eq_true rfl⟩
