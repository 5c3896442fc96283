set_option maxHeartbeats 4000000 in
set_option maxRecDepth 100000 in
theorem b_make_0 (f : Int32)  : mBoth 69 124 [.int 0, .int f] := by
  apply mBoth_of
  refine mR_ix [(0, .ref 0), (1, .int 0), (2, .int f)] rfl rfl rfl ?_
  refine mE_ildn 1 rfl rfl rfl rfl ?_
  refine mE_ico 2 0 rfl rfl rfl ?_
  refine mE_ico 3 2 rfl rfl rfl ?_
  refine mE_cs [.int 0, .int 0, .int 2] [] rfl rfl rfl rfl rfl ?_
  refine mR_ix [(0, .int 0), (1, .int 0), (2, .int 2)] rfl rfl rfl ?_
  refine mE_ildn 1 rfl rfl rfl rfl ?_
  refine mE_ildn 2 rfl rfl rfl rfl ?_
  refine mE_ic_lt_f 5 rfl (by decide) rfl ?_
  refine mE_ildn 6 rfl rfl rfl rfl ?_
  refine mE_ildn 7 rfl rfl rfl rfl ?_
  refine mE_ic_gt_f 10 rfl (by decide) rfl ?_
  refine mE_ico 11 1 rfl rfl rfl ?_
  refine mE_goto 15 rfl rfl ?_
  refine mE_iret rfl ⟨rfl, ?_⟩
  refine mE_if_eq_f 9 rfl (by decide) rfl ?_
  refine mE_ildn 10 rfl rfl rfl rfl ?_
  refine mE_aldn 11 rfl rfl rfl rfl ?_
  refine mE_gf 14 rfl rfl mh_0 rfl rfl ?_
  refine mE_sip 17 2000 rfl rfl rfl ?_
  refine mE_cs [.int f, .int 0, .int 2000] [] rfl rfl rfl rfl rfl ?_
  refine mR_ix [(0, .int f), (1, .int 0), (2, .int 2000)] rfl rfl rfl ?_
  refine mE_ildn 1 rfl rfl rfl rfl ?_
  refine mE_ildn 2 rfl rfl rfl rfl ?_
  refine mE_ic_lt rfl (fun h11 => ?_) (fun h11 => ?_)
  ·
    have h11 : f < (0 : Int32) := h11
    refine mE_ico 15 0 rfl rfl rfl ?_
    refine mE_iret rfl ⟨rfl, ?_⟩
    refine mE_if_ne_f 23 rfl (by decide) rfl ?_
    refine mE_ico 24 (-1) rfl rfl rfl ?_
    refine mE_iret rfl ⟨rfl, ⟨_, mh_47⟩, ?_⟩
    refine mR_ix [(0, .ref 47), (1, .int 0), (2, .int f)] rfl rfl rfl ?_
    refine mE_ildn 1 rfl rfl rfl rfl ?_
    refine mE_ico 2 0 rfl rfl rfl ?_
    refine mE_ico 3 2 rfl rfl rfl ?_
    refine mE_cs [.int 0, .int 0, .int 2] [] rfl rfl rfl rfl rfl ?_
    refine mR_ix [(0, .int 0), (1, .int 0), (2, .int 2)] rfl rfl rfl ?_
    refine mE_ildn 1 rfl rfl rfl rfl ?_
    refine mE_ildn 2 rfl rfl rfl rfl ?_
    refine mE_ic_lt_f 5 rfl (by decide) rfl ?_
    refine mE_ildn 6 rfl rfl rfl rfl ?_
    refine mE_ildn 7 rfl rfl rfl rfl ?_
    refine mE_ic_gt_f 10 rfl (by decide) rfl ?_
    refine mE_ico 11 1 rfl rfl rfl ?_
    refine mE_goto 15 rfl rfl ?_
    refine mE_iret rfl ⟨rfl, ?_⟩
    refine mE_if_eq_f 9 rfl (by decide) rfl ?_
    refine mE_ildn 10 rfl rfl rfl rfl ?_
    refine mE_aldn 11 rfl rfl rfl rfl ?_
    refine mE_gf 14 rfl rfl mh_47 rfl rfl ?_
    refine mE_sip 17 2000 rfl rfl rfl ?_
    refine mE_cs [.int f, .int 0, .int 2000] [] rfl rfl rfl rfl rfl ?_
    refine mR_ix [(0, .int f), (1, .int 0), (2, .int 2000)] rfl rfl rfl ?_
    refine mE_ildn 1 rfl rfl rfl rfl ?_
    refine mE_ildn 2 rfl rfl rfl rfl ?_
    refine mE_ic_lt rfl (fun h12 => ?_) (fun h12 => ?_)
    ·
      have h12 : f < (0 : Int32) := h12
      refine mE_ico 15 0 rfl rfl rfl ?_
      refine mE_iret rfl ⟨rfl, ?_⟩
      refine mE_if_ne_f 23 rfl (by decide) rfl ?_
      refine mE_ico 24 (-1) rfl rfl rfl ?_
      exact mE_iret rfl ⟨rfl, _, rfl, rfl, Nat.le_of_ble_eq_true rfl, Nat.le_of_ble_eq_true rfl⟩
    ·
      have h12 : ¬ (f < (0 : Int32)) := h12
      exfalso
      simp only [Int32.not_le, Int32.not_lt, Int32.le_iff_toInt_le, Int32.lt_iff_toInt_lt, mi_m1, mi_0, mi_1, mi_2, mi_4, mi_7, mi_9, mi_19, mi_40, mi_60, mi_2000, mi_10000] at h11 h12
      all_goals omega
  ·
    have h11 : ¬ (f < (0 : Int32)) := h11
    refine mE_ildn 6 rfl rfl rfl rfl ?_
    refine mE_ildn 7 rfl rfl rfl rfl ?_
    refine mE_ic_gt rfl (fun h13 => ?_) (fun h13 => ?_)
    ·
      have h13 : (2000 : Int32) < f := h13
      refine mE_ico 15 0 rfl rfl rfl ?_
      refine mE_iret rfl ⟨rfl, ?_⟩
      refine mE_if_ne_f 23 rfl (by decide) rfl ?_
      refine mE_ico 24 (-1) rfl rfl rfl ?_
      refine mE_iret rfl ⟨rfl, ⟨_, mh_47⟩, ?_⟩
      refine mR_ix [(0, .ref 47), (1, .int 0), (2, .int f)] rfl rfl rfl ?_
      refine mE_ildn 1 rfl rfl rfl rfl ?_
      refine mE_ico 2 0 rfl rfl rfl ?_
      refine mE_ico 3 2 rfl rfl rfl ?_
      refine mE_cs [.int 0, .int 0, .int 2] [] rfl rfl rfl rfl rfl ?_
      refine mR_ix [(0, .int 0), (1, .int 0), (2, .int 2)] rfl rfl rfl ?_
      refine mE_ildn 1 rfl rfl rfl rfl ?_
      refine mE_ildn 2 rfl rfl rfl rfl ?_
      refine mE_ic_lt_f 5 rfl (by decide) rfl ?_
      refine mE_ildn 6 rfl rfl rfl rfl ?_
      refine mE_ildn 7 rfl rfl rfl rfl ?_
      refine mE_ic_gt_f 10 rfl (by decide) rfl ?_
      refine mE_ico 11 1 rfl rfl rfl ?_
      refine mE_goto 15 rfl rfl ?_
      refine mE_iret rfl ⟨rfl, ?_⟩
      refine mE_if_eq_f 9 rfl (by decide) rfl ?_
      refine mE_ildn 10 rfl rfl rfl rfl ?_
      refine mE_aldn 11 rfl rfl rfl rfl ?_
      refine mE_gf 14 rfl rfl mh_47 rfl rfl ?_
      refine mE_sip 17 2000 rfl rfl rfl ?_
      refine mE_cs [.int f, .int 0, .int 2000] [] rfl rfl rfl rfl rfl ?_
      refine mR_ix [(0, .int f), (1, .int 0), (2, .int 2000)] rfl rfl rfl ?_
      refine mE_ildn 1 rfl rfl rfl rfl ?_
      refine mE_ildn 2 rfl rfl rfl rfl ?_
      refine mE_ic_lt rfl (fun h14 => ?_) (fun h14 => ?_)
      ·
        have h14 : f < (0 : Int32) := h14
        exfalso
        simp only [Int32.not_le, Int32.not_lt, Int32.le_iff_toInt_le, Int32.lt_iff_toInt_lt, mi_m1, mi_0, mi_1, mi_2, mi_4, mi_7, mi_9, mi_19, mi_40, mi_60, mi_2000, mi_10000] at h11 h13 h14
        all_goals omega
      ·
        have h14 : ¬ (f < (0 : Int32)) := h14
        refine mE_ildn 6 rfl rfl rfl rfl ?_
        refine mE_ildn 7 rfl rfl rfl rfl ?_
        refine mE_ic_gt rfl (fun h15 => ?_) (fun h15 => ?_)
        ·
          have h15 : (2000 : Int32) < f := h15
          refine mE_ico 15 0 rfl rfl rfl ?_
          refine mE_iret rfl ⟨rfl, ?_⟩
          refine mE_if_ne_f 23 rfl (by decide) rfl ?_
          refine mE_ico 24 (-1) rfl rfl rfl ?_
          exact mE_iret rfl ⟨rfl, _, rfl, rfl, Nat.le_of_ble_eq_true rfl, Nat.le_of_ble_eq_true rfl⟩
        ·
          have h15 : ¬ ((2000 : Int32) < f) := h15
          exfalso
          simp only [Int32.not_le, Int32.not_lt, Int32.le_iff_toInt_le, Int32.lt_iff_toInt_lt, mi_m1, mi_0, mi_1, mi_2, mi_4, mi_7, mi_9, mi_19, mi_40, mi_60, mi_2000, mi_10000] at h11 h13 h14 h15
          all_goals omega
    ·
      have h13 : ¬ ((2000 : Int32) < f) := h13
      refine mE_ico 11 1 rfl rfl rfl ?_
      refine mE_goto 15 rfl rfl ?_
      refine mE_iret rfl ⟨rfl, ?_⟩
      refine mE_if_ne_t 25 rfl (by decide) rfl ?_
      refine mE_aldn 26 rfl rfl rfl rfl ?_
      refine mE_ildn 27 rfl rfl rfl rfl ?_
      refine mE_ildn 28 rfl rfl rfl rfl ?_
      refine mE_cv [.int 0, .int f] [] rfl rfl rfl rfl mh_0 rfl ?_
      refine mR_ix [(0, .ref 0), (1, .int 0), (2, .int f)] rfl rfl rfl ?_
      refine mE_aldn 1 rfl rfl rfl rfl ?_
      refine mE_gf 4 rfl rfl mh_0 rfl rfl ?_
      refine mE_aldn 5 rfl rfl rfl rfl ?_
      refine mE_gf 8 rfl rfl mh_0 rfl rfl ?_
      refine mE_cv [.ref 6] [] rfl rfl rfl rfl mh_8 rfl ?_
      refine mR_ix [(0, .ref 8), (1, .ref 6)] rfl rfl rfl ?_
      refine mE_aldn 1 rfl rfl rfl rfl ?_
      refine mE_cv [] [] rfl rfl rfl rfl mh_8 rfl ?_
      refine mR_ix [(0, .ref 8)] rfl rfl rfl ?_
      refine mE_aldn 1 rfl rfl rfl rfl ?_
      refine mE_gf 4 rfl rfl mh_8 rfl rfl ?_
      refine mE_ico 5 0 rfl rfl rfl ?_
      refine mE_pf 8 rfl mh_44 rfl rfl ?_
      refine mE_aldn 9 rfl rfl rfl rfl ?_
      refine mE_ico 10 0 rfl rfl rfl ?_
      refine mE_pf 13 rfl (mg_ne rfl mh_8) rfl rfl ?_
      refine mE_aldn 14 rfl rfl rfl rfl ?_
      refine mE_ico 15 0 rfl rfl rfl ?_
      refine mE_pf 18 rfl (mg_eq (mg_ne rfl mh_8)) rfl rfl ?_
      refine mE_aldn 19 rfl rfl rfl rfl ?_
      refine mE_ico 20 0 rfl rfl rfl ?_
      refine mE_pf 23 rfl (mg_eq (mg_eq (mg_ne rfl mh_8))) rfl rfl ?_
      refine mE_aldn 24 rfl rfl rfl rfl ?_
      refine mE_ico 25 0 rfl rfl rfl ?_
      refine mE_pf 28 rfl (mg_eq (mg_eq (mg_eq (mg_ne rfl mh_8)))) rfl rfl ?_
      refine mE_aldn 29 rfl rfl rfl rfl ?_
      refine mE_ico 30 1 rfl rfl rfl ?_
      refine mE_pf 33 rfl (mg_eq (mg_eq (mg_eq (mg_eq (mg_ne rfl mh_8))))) rfl rfl ?_
      refine mE_aldn 34 rfl rfl rfl rfl ?_
      refine mE_ico 35 1 rfl rfl rfl ?_
      refine mE_pf 38 rfl (mg_eq (mg_eq (mg_eq (mg_eq (mg_eq (mg_ne rfl mh_8)))))) rfl rfl ?_
      refine mE_vret rfl ⟨rfl, ?_⟩
      refine mE_ico 5 0 rfl rfl rfl ?_
      refine mE_istn 6 [(2, .int 0), (0, .ref 8), (1, .ref 6)] rfl rfl rfl rfl ?_
      refine mE_ildn 7 rfl rfl rfl rfl ?_
      refine mE_aldn 8 rfl rfl rfl rfl ?_
      refine mE_gf 11 rfl rfl (mg_ne rfl (mg_ne rfl (mg_ne rfl (mg_ne rfl (mg_ne rfl (mg_ne rfl (mg_ne rfl mh_6))))))) rfl rfl ?_
      refine mE_ic_ge_t 56 rfl (by decide) rfl ?_
      refine mE_aldn 57 rfl rfl rfl rfl ?_
      refine mE_gf 60 rfl rfl (mg_eq (mg_eq (mg_eq (mg_eq (mg_eq (mg_eq (mg_ne rfl mh_8))))))) rfl rfl ?_
      refine mE_if_ne_t 70 rfl (by decide) rfl ?_
      refine mE_aldn 71 rfl rfl rfl rfl ?_
      refine mE_gf 74 rfl rfl (mg_ne rfl (mg_ne rfl (mg_ne rfl (mg_ne rfl (mg_ne rfl (mg_ne rfl (mg_ne rfl mh_6))))))) rfl rfl ?_
      refine mE_iret rfl ⟨rfl, ?_⟩
      refine mE_istn 12 [(3, .int 0), (0, .ref 0), (1, .int 0), (2, .int f)] rfl rfl rfl rfl ?_
      refine mE_ildn 13 rfl rfl rfl rfl ?_
      refine mE_ico 14 (-1) rfl rfl rfl ?_
      refine mE_ic_eq_f 17 rfl (by decide) rfl ?_
      refine mE_bip 19 (-10) rfl rfl rfl ?_
      refine mE_ildn 20 rfl rfl rfl rfl ?_
      refine mE_ico 21 1 rfl rfl rfl ?_
      refine mE_iadd 22 1 rfl rfl rfl ?_
      refine mE_imul 23 (-10) rfl rfl rfl ?_
      refine mE_iret rfl ⟨rfl, ?_⟩
      refine mE_iret rfl ⟨rfl, ⟨_, (mg_ne rfl (mg_ne rfl (mg_ne rfl (mg_ne rfl (mg_ne rfl (mg_ne rfl (mg_ne rfl mh_47)))))))⟩, ?_⟩
      refine mR_ix [(0, .ref 47), (1, .int 0), (2, .int f)] rfl rfl rfl ?_
      refine mE_ildn 1 rfl rfl rfl rfl ?_
      refine mE_ico 2 0 rfl rfl rfl ?_
      refine mE_ico 3 2 rfl rfl rfl ?_
      refine mE_cs [.int 0, .int 0, .int 2] [] rfl rfl rfl rfl rfl ?_
      refine mR_ix [(0, .int 0), (1, .int 0), (2, .int 2)] rfl rfl rfl ?_
      refine mE_ildn 1 rfl rfl rfl rfl ?_
      refine mE_ildn 2 rfl rfl rfl rfl ?_
      refine mE_ic_lt_f 5 rfl (by decide) rfl ?_
      refine mE_ildn 6 rfl rfl rfl rfl ?_
      refine mE_ildn 7 rfl rfl rfl rfl ?_
      refine mE_ic_gt_f 10 rfl (by decide) rfl ?_
      refine mE_ico 11 1 rfl rfl rfl ?_
      refine mE_goto 15 rfl rfl ?_
      refine mE_iret rfl ⟨rfl, ?_⟩
      refine mE_if_eq_f 9 rfl (by decide) rfl ?_
      refine mE_ildn 10 rfl rfl rfl rfl ?_
      refine mE_aldn 11 rfl rfl rfl rfl ?_
      refine mE_gf 14 rfl rfl (mg_ne rfl (mg_ne rfl (mg_ne rfl (mg_ne rfl (mg_ne rfl (mg_ne rfl (mg_ne rfl mh_47))))))) rfl rfl ?_
      refine mE_sip 17 2000 rfl rfl rfl ?_
      refine mE_cs [.int f, .int 0, .int 2000] [] rfl rfl rfl rfl rfl ?_
      refine mR_ix [(0, .int f), (1, .int 0), (2, .int 2000)] rfl rfl rfl ?_
      refine mE_ildn 1 rfl rfl rfl rfl ?_
      refine mE_ildn 2 rfl rfl rfl rfl ?_
      refine mE_ic_lt rfl (fun h16 => ?_) (fun h16 => ?_)
      ·
        have h16 : f < (0 : Int32) := h16
        exfalso
        simp only [Int32.not_le, Int32.not_lt, Int32.le_iff_toInt_le, Int32.lt_iff_toInt_lt, mi_m1, mi_0, mi_1, mi_2, mi_4, mi_7, mi_9, mi_19, mi_40, mi_60, mi_2000, mi_10000] at h11 h13 h16
        all_goals omega
      ·
        have h16 : ¬ (f < (0 : Int32)) := h16
        refine mE_ildn 6 rfl rfl rfl rfl ?_
        refine mE_ildn 7 rfl rfl rfl rfl ?_
        refine mE_ic_gt rfl (fun h17 => ?_) (fun h17 => ?_)
        ·
          have h17 : (2000 : Int32) < f := h17
          exfalso
          simp only [Int32.not_le, Int32.not_lt, Int32.le_iff_toInt_le, Int32.lt_iff_toInt_lt, mi_m1, mi_0, mi_1, mi_2, mi_4, mi_7, mi_9, mi_19, mi_40, mi_60, mi_2000, mi_10000] at h11 h13 h16 h17
          all_goals omega
        ·
          have h17 : ¬ ((2000 : Int32) < f) := h17
          refine mE_ico 11 1 rfl rfl rfl ?_
          refine mE_goto 15 rfl rfl ?_
          refine mE_iret rfl ⟨rfl, ?_⟩
          refine mE_if_ne_t 25 rfl (by decide) rfl ?_
          refine mE_aldn 26 rfl rfl rfl rfl ?_
          refine mE_cv [] [] rfl rfl rfl rfl (mg_ne rfl (mg_ne rfl (mg_ne rfl (mg_ne rfl (mg_ne rfl (mg_ne rfl (mg_ne rfl mh_47))))))) rfl ?_
          refine mR_ix [(0, .ref 47)] rfl rfl rfl ?_
          refine mE_ico 1 0 rfl rfl rfl ?_
          refine mE_istn 2 [(1, .int 0), (0, .ref 47)] rfl rfl rfl rfl ?_
          refine mE_ico 3 0 rfl rfl rfl ?_
          refine mE_istn 4 [(2, .int 0), (1, .int 0), (0, .ref 47)] rfl rfl rfl rfl ?_
          refine mE_ico 5 1 rfl rfl rfl ?_
          refine mE_istn 6 [(3, .int 1), (2, .int 0), (1, .int 0), (0, .ref 47)] rfl rfl rfl rfl ?_
          refine mE_ico 7 1 rfl rfl rfl ?_
          refine mE_ist 9 [(4, .int 1), (3, .int 1), (2, .int 0), (1, .int 0), (0, .ref 47)] rfl rfl rfl rfl ?_
          refine mE_aldn 10 rfl rfl rfl rfl ?_
          refine mE_gf 13 rfl rfl (mg_ne rfl (mg_ne rfl (mg_ne rfl (mg_ne rfl (mg_ne rfl (mg_ne rfl (mg_ne rfl mh_47))))))) rfl rfl ?_
          refine mE_ico 14 0 rfl rfl rfl ?_
          refine mE_ico 15 0 rfl rfl rfl ?_
          refine mE_bsa 16 0 rfl (mg_ne rfl (mg_ne rfl (mg_ne rfl (mg_ne rfl (mg_ne rfl (mg_ne rfl (mg_ne rfl mh_71))))))) rfl rfl (show ¬ ((0 : Int32) < 0 ∨ 13 ≤ 0) by decide) rfl ?_
          refine mE_ico 17 0 rfl rfl rfl ?_
          refine mE_ist 19 [(5, .int 0), (4, .int 1), (3, .int 1), (2, .int 0), (1, .int 0), (0, .ref 47)] rfl rfl rfl rfl ?_
          refine mE_ild 21 rfl rfl rfl rfl ?_
          refine mE_aldn 22 rfl rfl rfl rfl ?_
          refine mE_gf 25 rfl rfl (mg_ne rfl (mg_ne rfl (mg_ne rfl (mg_ne rfl (mg_ne rfl (mg_ne rfl (mg_ne rfl (mg_ne rfl mh_47)))))))) rfl rfl ?_
          refine mE_ic_ge_t 301 rfl (by decide) rfl ?_
          refine mE_ildn 302 rfl rfl rfl rfl ?_
          refine mE_if_ne_t 309 rfl (by decide) rfl ?_
          refine mE_aldn 310 rfl rfl rfl rfl ?_
          refine mE_gf 313 rfl rfl (mg_ne rfl (mg_ne rfl (mg_ne rfl (mg_ne rfl (mg_ne rfl (mg_ne rfl (mg_ne rfl (mg_ne rfl mh_47)))))))) rfl rfl ?_
          refine mE_goto 317 rfl rfl ?_
          refine mE_iret rfl ⟨rfl, ?_⟩
          refine mE_istn 30 [(3, .int 0), (0, .ref 47), (1, .int 0), (2, .int f)] rfl rfl rfl rfl ?_
          refine mE_ildn 31 rfl rfl rfl rfl ?_
          refine mE_if_lt_f 34 rfl (by decide) rfl ?_
          refine mE_bip 36 (-10) rfl rfl rfl ?_
          refine mE_ildn 37 rfl rfl rfl rfl ?_
          refine mE_ico 38 1 rfl rfl rfl ?_
          refine mE_iadd 39 1 rfl rfl rfl ?_
          refine mE_imul 40 (-10) rfl rfl rfl ?_
          exact mE_iret rfl ⟨rfl, _, rfl, rfl, by simp only [List.length_set, List.length_append]; exact Nat.le_of_ble_eq_true rfl, Nat.le_of_ble_eq_true rfl⟩

set_option maxHeartbeats 4000000 in
set_option maxRecDepth 100000 in
theorem b_make_1 (f : Int32)  : mBoth 69 124 [.int 1, .int f] := by
  apply mBoth_of
  refine mR_ix [(0, .ref 0), (1, .int 1), (2, .int f)] rfl rfl rfl ?_
  refine mE_ildn 1 rfl rfl rfl rfl ?_
  refine mE_ico 2 0 rfl rfl rfl ?_
  refine mE_ico 3 2 rfl rfl rfl ?_
  refine mE_cs [.int 1, .int 0, .int 2] [] rfl rfl rfl rfl rfl ?_
  refine mR_ix [(0, .int 1), (1, .int 0), (2, .int 2)] rfl rfl rfl ?_
  refine mE_ildn 1 rfl rfl rfl rfl ?_
  refine mE_ildn 2 rfl rfl rfl rfl ?_
  refine mE_ic_lt_f 5 rfl (by decide) rfl ?_
  refine mE_ildn 6 rfl rfl rfl rfl ?_
  refine mE_ildn 7 rfl rfl rfl rfl ?_
  refine mE_ic_gt_f 10 rfl (by decide) rfl ?_
  refine mE_ico 11 1 rfl rfl rfl ?_
  refine mE_goto 15 rfl rfl ?_
  refine mE_iret rfl ⟨rfl, ?_⟩
  refine mE_if_eq_f 9 rfl (by decide) rfl ?_
  refine mE_ildn 10 rfl rfl rfl rfl ?_
  refine mE_aldn 11 rfl rfl rfl rfl ?_
  refine mE_gf 14 rfl rfl mh_0 rfl rfl ?_
  refine mE_sip 17 2000 rfl rfl rfl ?_
  refine mE_cs [.int f, .int 0, .int 2000] [] rfl rfl rfl rfl rfl ?_
  refine mR_ix [(0, .int f), (1, .int 0), (2, .int 2000)] rfl rfl rfl ?_
  refine mE_ildn 1 rfl rfl rfl rfl ?_
  refine mE_ildn 2 rfl rfl rfl rfl ?_
  refine mE_ic_lt rfl (fun h11 => ?_) (fun h11 => ?_)
  ·
    have h11 : f < (0 : Int32) := h11
    refine mE_ico 15 0 rfl rfl rfl ?_
    refine mE_iret rfl ⟨rfl, ?_⟩
    refine mE_if_ne_f 23 rfl (by decide) rfl ?_
    refine mE_ico 24 (-1) rfl rfl rfl ?_
    refine mE_iret rfl ⟨rfl, ⟨_, mh_47⟩, ?_⟩
    refine mR_ix [(0, .ref 47), (1, .int 1), (2, .int f)] rfl rfl rfl ?_
    refine mE_ildn 1 rfl rfl rfl rfl ?_
    refine mE_ico 2 0 rfl rfl rfl ?_
    refine mE_ico 3 2 rfl rfl rfl ?_
    refine mE_cs [.int 1, .int 0, .int 2] [] rfl rfl rfl rfl rfl ?_
    refine mR_ix [(0, .int 1), (1, .int 0), (2, .int 2)] rfl rfl rfl ?_
    refine mE_ildn 1 rfl rfl rfl rfl ?_
    refine mE_ildn 2 rfl rfl rfl rfl ?_
    refine mE_ic_lt_f 5 rfl (by decide) rfl ?_
    refine mE_ildn 6 rfl rfl rfl rfl ?_
    refine mE_ildn 7 rfl rfl rfl rfl ?_
    refine mE_ic_gt_f 10 rfl (by decide) rfl ?_
    refine mE_ico 11 1 rfl rfl rfl ?_
    refine mE_goto 15 rfl rfl ?_
    refine mE_iret rfl ⟨rfl, ?_⟩
    refine mE_if_eq_f 9 rfl (by decide) rfl ?_
    refine mE_ildn 10 rfl rfl rfl rfl ?_
    refine mE_aldn 11 rfl rfl rfl rfl ?_
    refine mE_gf 14 rfl rfl mh_47 rfl rfl ?_
    refine mE_sip 17 2000 rfl rfl rfl ?_
    refine mE_cs [.int f, .int 0, .int 2000] [] rfl rfl rfl rfl rfl ?_
    refine mR_ix [(0, .int f), (1, .int 0), (2, .int 2000)] rfl rfl rfl ?_
    refine mE_ildn 1 rfl rfl rfl rfl ?_
    refine mE_ildn 2 rfl rfl rfl rfl ?_
    refine mE_ic_lt rfl (fun h12 => ?_) (fun h12 => ?_)
    ·
      have h12 : f < (0 : Int32) := h12
      refine mE_ico 15 0 rfl rfl rfl ?_
      refine mE_iret rfl ⟨rfl, ?_⟩
      refine mE_if_ne_f 23 rfl (by decide) rfl ?_
      refine mE_ico 24 (-1) rfl rfl rfl ?_
      exact mE_iret rfl ⟨rfl, _, rfl, rfl, Nat.le_of_ble_eq_true rfl, Nat.le_of_ble_eq_true rfl⟩
    ·
      have h12 : ¬ (f < (0 : Int32)) := h12
      exfalso
      simp only [Int32.not_le, Int32.not_lt, Int32.le_iff_toInt_le, Int32.lt_iff_toInt_lt, mi_m1, mi_0, mi_1, mi_2, mi_4, mi_7, mi_9, mi_19, mi_40, mi_60, mi_2000, mi_10000] at h11 h12
      all_goals omega
  ·
    have h11 : ¬ (f < (0 : Int32)) := h11
    refine mE_ildn 6 rfl rfl rfl rfl ?_
    refine mE_ildn 7 rfl rfl rfl rfl ?_
    refine mE_ic_gt rfl (fun h13 => ?_) (fun h13 => ?_)
    ·
      have h13 : (2000 : Int32) < f := h13
      refine mE_ico 15 0 rfl rfl rfl ?_
      refine mE_iret rfl ⟨rfl, ?_⟩
      refine mE_if_ne_f 23 rfl (by decide) rfl ?_
      refine mE_ico 24 (-1) rfl rfl rfl ?_
      refine mE_iret rfl ⟨rfl, ⟨_, mh_47⟩, ?_⟩
      refine mR_ix [(0, .ref 47), (1, .int 1), (2, .int f)] rfl rfl rfl ?_
      refine mE_ildn 1 rfl rfl rfl rfl ?_
      refine mE_ico 2 0 rfl rfl rfl ?_
      refine mE_ico 3 2 rfl rfl rfl ?_
      refine mE_cs [.int 1, .int 0, .int 2] [] rfl rfl rfl rfl rfl ?_
      refine mR_ix [(0, .int 1), (1, .int 0), (2, .int 2)] rfl rfl rfl ?_
      refine mE_ildn 1 rfl rfl rfl rfl ?_
      refine mE_ildn 2 rfl rfl rfl rfl ?_
      refine mE_ic_lt_f 5 rfl (by decide) rfl ?_
      refine mE_ildn 6 rfl rfl rfl rfl ?_
      refine mE_ildn 7 rfl rfl rfl rfl ?_
      refine mE_ic_gt_f 10 rfl (by decide) rfl ?_
      refine mE_ico 11 1 rfl rfl rfl ?_
      refine mE_goto 15 rfl rfl ?_
      refine mE_iret rfl ⟨rfl, ?_⟩
      refine mE_if_eq_f 9 rfl (by decide) rfl ?_
      refine mE_ildn 10 rfl rfl rfl rfl ?_
      refine mE_aldn 11 rfl rfl rfl rfl ?_
      refine mE_gf 14 rfl rfl mh_47 rfl rfl ?_
      refine mE_sip 17 2000 rfl rfl rfl ?_
      refine mE_cs [.int f, .int 0, .int 2000] [] rfl rfl rfl rfl rfl ?_
      refine mR_ix [(0, .int f), (1, .int 0), (2, .int 2000)] rfl rfl rfl ?_
      refine mE_ildn 1 rfl rfl rfl rfl ?_
      refine mE_ildn 2 rfl rfl rfl rfl ?_
      refine mE_ic_lt rfl (fun h14 => ?_) (fun h14 => ?_)
      ·
        have h14 : f < (0 : Int32) := h14
        exfalso
        simp only [Int32.not_le, Int32.not_lt, Int32.le_iff_toInt_le, Int32.lt_iff_toInt_lt, mi_m1, mi_0, mi_1, mi_2, mi_4, mi_7, mi_9, mi_19, mi_40, mi_60, mi_2000, mi_10000] at h11 h13 h14
        all_goals omega
      ·
        have h14 : ¬ (f < (0 : Int32)) := h14
        refine mE_ildn 6 rfl rfl rfl rfl ?_
        refine mE_ildn 7 rfl rfl rfl rfl ?_
        refine mE_ic_gt rfl (fun h15 => ?_) (fun h15 => ?_)
        ·
          have h15 : (2000 : Int32) < f := h15
          refine mE_ico 15 0 rfl rfl rfl ?_
          refine mE_iret rfl ⟨rfl, ?_⟩
          refine mE_if_ne_f 23 rfl (by decide) rfl ?_
          refine mE_ico 24 (-1) rfl rfl rfl ?_
          exact mE_iret rfl ⟨rfl, _, rfl, rfl, Nat.le_of_ble_eq_true rfl, Nat.le_of_ble_eq_true rfl⟩
        ·
          have h15 : ¬ ((2000 : Int32) < f) := h15
          exfalso
          simp only [Int32.not_le, Int32.not_lt, Int32.le_iff_toInt_le, Int32.lt_iff_toInt_lt, mi_m1, mi_0, mi_1, mi_2, mi_4, mi_7, mi_9, mi_19, mi_40, mi_60, mi_2000, mi_10000] at h11 h13 h14 h15
          all_goals omega
    ·
      have h13 : ¬ ((2000 : Int32) < f) := h13
      refine mE_ico 11 1 rfl rfl rfl ?_
      refine mE_goto 15 rfl rfl ?_
      refine mE_iret rfl ⟨rfl, ?_⟩
      refine mE_if_ne_t 25 rfl (by decide) rfl ?_
      refine mE_aldn 26 rfl rfl rfl rfl ?_
      refine mE_ildn 27 rfl rfl rfl rfl ?_
      refine mE_ildn 28 rfl rfl rfl rfl ?_
      refine mE_cv [.int 1, .int f] [] rfl rfl rfl rfl mh_0 rfl ?_
      refine mR_ix [(0, .ref 0), (1, .int 1), (2, .int f)] rfl rfl rfl ?_
      refine mE_aldn 1 rfl rfl rfl rfl ?_
      refine mE_gf 4 rfl rfl mh_0 rfl rfl ?_
      refine mE_aldn 5 rfl rfl rfl rfl ?_
      refine mE_gf 8 rfl rfl mh_0 rfl rfl ?_
      refine mE_cv [.ref 6] [] rfl rfl rfl rfl mh_8 rfl ?_
      refine mR_ix [(0, .ref 8), (1, .ref 6)] rfl rfl rfl ?_
      refine mE_aldn 1 rfl rfl rfl rfl ?_
      refine mE_cv [] [] rfl rfl rfl rfl mh_8 rfl ?_
      refine mR_ix [(0, .ref 8)] rfl rfl rfl ?_
      refine mE_aldn 1 rfl rfl rfl rfl ?_
      refine mE_gf 4 rfl rfl mh_8 rfl rfl ?_
      refine mE_ico 5 0 rfl rfl rfl ?_
      refine mE_pf 8 rfl mh_44 rfl rfl ?_
      refine mE_aldn 9 rfl rfl rfl rfl ?_
      refine mE_ico 10 0 rfl rfl rfl ?_
      refine mE_pf 13 rfl (mg_ne rfl mh_8) rfl rfl ?_
      refine mE_aldn 14 rfl rfl rfl rfl ?_
      refine mE_ico 15 0 rfl rfl rfl ?_
      refine mE_pf 18 rfl (mg_eq (mg_ne rfl mh_8)) rfl rfl ?_
      refine mE_aldn 19 rfl rfl rfl rfl ?_
      refine mE_ico 20 0 rfl rfl rfl ?_
      refine mE_pf 23 rfl (mg_eq (mg_eq (mg_ne rfl mh_8))) rfl rfl ?_
      refine mE_aldn 24 rfl rfl rfl rfl ?_
      refine mE_ico 25 0 rfl rfl rfl ?_
      refine mE_pf 28 rfl (mg_eq (mg_eq (mg_eq (mg_ne rfl mh_8)))) rfl rfl ?_
      refine mE_aldn 29 rfl rfl rfl rfl ?_
      refine mE_ico 30 1 rfl rfl rfl ?_
      refine mE_pf 33 rfl (mg_eq (mg_eq (mg_eq (mg_eq (mg_ne rfl mh_8))))) rfl rfl ?_
      refine mE_aldn 34 rfl rfl rfl rfl ?_
      refine mE_ico 35 1 rfl rfl rfl ?_
      refine mE_pf 38 rfl (mg_eq (mg_eq (mg_eq (mg_eq (mg_eq (mg_ne rfl mh_8)))))) rfl rfl ?_
      refine mE_vret rfl ⟨rfl, ?_⟩
      refine mE_ico 5 0 rfl rfl rfl ?_
      refine mE_istn 6 [(2, .int 0), (0, .ref 8), (1, .ref 6)] rfl rfl rfl rfl ?_
      refine mE_ildn 7 rfl rfl rfl rfl ?_
      refine mE_aldn 8 rfl rfl rfl rfl ?_
      refine mE_gf 11 rfl rfl (mg_ne rfl (mg_ne rfl (mg_ne rfl (mg_ne rfl (mg_ne rfl (mg_ne rfl (mg_ne rfl mh_6))))))) rfl rfl ?_
      refine mE_ic_ge_t 56 rfl (by decide) rfl ?_
      refine mE_aldn 57 rfl rfl rfl rfl ?_
      refine mE_gf 60 rfl rfl (mg_eq (mg_eq (mg_eq (mg_eq (mg_eq (mg_eq (mg_ne rfl mh_8))))))) rfl rfl ?_
      refine mE_if_ne_t 70 rfl (by decide) rfl ?_
      refine mE_aldn 71 rfl rfl rfl rfl ?_
      refine mE_gf 74 rfl rfl (mg_ne rfl (mg_ne rfl (mg_ne rfl (mg_ne rfl (mg_ne rfl (mg_ne rfl (mg_ne rfl mh_6))))))) rfl rfl ?_
      refine mE_iret rfl ⟨rfl, ?_⟩
      refine mE_istn 12 [(3, .int 0), (0, .ref 0), (1, .int 1), (2, .int f)] rfl rfl rfl rfl ?_
      refine mE_ildn 13 rfl rfl rfl rfl ?_
      refine mE_ico 14 (-1) rfl rfl rfl ?_
      refine mE_ic_eq_f 17 rfl (by decide) rfl ?_
      refine mE_bip 19 (-10) rfl rfl rfl ?_
      refine mE_ildn 20 rfl rfl rfl rfl ?_
      refine mE_ico 21 1 rfl rfl rfl ?_
      refine mE_iadd 22 1 rfl rfl rfl ?_
      refine mE_imul 23 (-10) rfl rfl rfl ?_
      refine mE_iret rfl ⟨rfl, ?_⟩
      refine mE_iret rfl ⟨rfl, ⟨_, (mg_ne rfl (mg_ne rfl (mg_ne rfl (mg_ne rfl (mg_ne rfl (mg_ne rfl (mg_ne rfl mh_47)))))))⟩, ?_⟩
      refine mR_ix [(0, .ref 47), (1, .int 1), (2, .int f)] rfl rfl rfl ?_
      refine mE_ildn 1 rfl rfl rfl rfl ?_
      refine mE_ico 2 0 rfl rfl rfl ?_
      refine mE_ico 3 2 rfl rfl rfl ?_
      refine mE_cs [.int 1, .int 0, .int 2] [] rfl rfl rfl rfl rfl ?_
      refine mR_ix [(0, .int 1), (1, .int 0), (2, .int 2)] rfl rfl rfl ?_
      refine mE_ildn 1 rfl rfl rfl rfl ?_
      refine mE_ildn 2 rfl rfl rfl rfl ?_
      refine mE_ic_lt_f 5 rfl (by decide) rfl ?_
      refine mE_ildn 6 rfl rfl rfl rfl ?_
      refine mE_ildn 7 rfl rfl rfl rfl ?_
      refine mE_ic_gt_f 10 rfl (by decide) rfl ?_
      refine mE_ico 11 1 rfl rfl rfl ?_
      refine mE_goto 15 rfl rfl ?_
      refine mE_iret rfl ⟨rfl, ?_⟩
      refine mE_if_eq_f 9 rfl (by decide) rfl ?_
      refine mE_ildn 10 rfl rfl rfl rfl ?_
      refine mE_aldn 11 rfl rfl rfl rfl ?_
      refine mE_gf 14 rfl rfl (mg_ne rfl (mg_ne rfl (mg_ne rfl (mg_ne rfl (mg_ne rfl (mg_ne rfl (mg_ne rfl mh_47))))))) rfl rfl ?_
      refine mE_sip 17 2000 rfl rfl rfl ?_
      refine mE_cs [.int f, .int 0, .int 2000] [] rfl rfl rfl rfl rfl ?_
      refine mR_ix [(0, .int f), (1, .int 0), (2, .int 2000)] rfl rfl rfl ?_
      refine mE_ildn 1 rfl rfl rfl rfl ?_
      refine mE_ildn 2 rfl rfl rfl rfl ?_
      refine mE_ic_lt rfl (fun h16 => ?_) (fun h16 => ?_)
      ·
        have h16 : f < (0 : Int32) := h16
        exfalso
        simp only [Int32.not_le, Int32.not_lt, Int32.le_iff_toInt_le, Int32.lt_iff_toInt_lt, mi_m1, mi_0, mi_1, mi_2, mi_4, mi_7, mi_9, mi_19, mi_40, mi_60, mi_2000, mi_10000] at h11 h13 h16
        all_goals omega
      ·
        have h16 : ¬ (f < (0 : Int32)) := h16
        refine mE_ildn 6 rfl rfl rfl rfl ?_
        refine mE_ildn 7 rfl rfl rfl rfl ?_
        refine mE_ic_gt rfl (fun h17 => ?_) (fun h17 => ?_)
        ·
          have h17 : (2000 : Int32) < f := h17
          exfalso
          simp only [Int32.not_le, Int32.not_lt, Int32.le_iff_toInt_le, Int32.lt_iff_toInt_lt, mi_m1, mi_0, mi_1, mi_2, mi_4, mi_7, mi_9, mi_19, mi_40, mi_60, mi_2000, mi_10000] at h11 h13 h16 h17
          all_goals omega
        ·
          have h17 : ¬ ((2000 : Int32) < f) := h17
          refine mE_ico 11 1 rfl rfl rfl ?_
          refine mE_goto 15 rfl rfl ?_
          refine mE_iret rfl ⟨rfl, ?_⟩
          refine mE_if_ne_t 25 rfl (by decide) rfl ?_
          refine mE_aldn 26 rfl rfl rfl rfl ?_
          refine mE_cv [] [] rfl rfl rfl rfl (mg_ne rfl (mg_ne rfl (mg_ne rfl (mg_ne rfl (mg_ne rfl (mg_ne rfl (mg_ne rfl mh_47))))))) rfl ?_
          refine mR_ix [(0, .ref 47)] rfl rfl rfl ?_
          refine mE_ico 1 0 rfl rfl rfl ?_
          refine mE_istn 2 [(1, .int 0), (0, .ref 47)] rfl rfl rfl rfl ?_
          refine mE_ico 3 0 rfl rfl rfl ?_
          refine mE_istn 4 [(2, .int 0), (1, .int 0), (0, .ref 47)] rfl rfl rfl rfl ?_
          refine mE_ico 5 1 rfl rfl rfl ?_
          refine mE_istn 6 [(3, .int 1), (2, .int 0), (1, .int 0), (0, .ref 47)] rfl rfl rfl rfl ?_
          refine mE_ico 7 1 rfl rfl rfl ?_
          refine mE_ist 9 [(4, .int 1), (3, .int 1), (2, .int 0), (1, .int 0), (0, .ref 47)] rfl rfl rfl rfl ?_
          refine mE_aldn 10 rfl rfl rfl rfl ?_
          refine mE_gf 13 rfl rfl (mg_ne rfl (mg_ne rfl (mg_ne rfl (mg_ne rfl (mg_ne rfl (mg_ne rfl (mg_ne rfl mh_47))))))) rfl rfl ?_
          refine mE_ico 14 0 rfl rfl rfl ?_
          refine mE_ico 15 0 rfl rfl rfl ?_
          refine mE_bsa 16 0 rfl (mg_ne rfl (mg_ne rfl (mg_ne rfl (mg_ne rfl (mg_ne rfl (mg_ne rfl (mg_ne rfl mh_71))))))) rfl rfl (show ¬ ((0 : Int32) < 0 ∨ 13 ≤ 0) by decide) rfl ?_
          refine mE_ico 17 0 rfl rfl rfl ?_
          refine mE_ist 19 [(5, .int 0), (4, .int 1), (3, .int 1), (2, .int 0), (1, .int 0), (0, .ref 47)] rfl rfl rfl rfl ?_
          refine mE_ild 21 rfl rfl rfl rfl ?_
          refine mE_aldn 22 rfl rfl rfl rfl ?_
          refine mE_gf 25 rfl rfl (mg_ne rfl (mg_ne rfl (mg_ne rfl (mg_ne rfl (mg_ne rfl (mg_ne rfl (mg_ne rfl (mg_ne rfl mh_47)))))))) rfl rfl ?_
          refine mE_ic_ge_t 301 rfl (by decide) rfl ?_
          refine mE_ildn 302 rfl rfl rfl rfl ?_
          refine mE_if_ne_t 309 rfl (by decide) rfl ?_
          refine mE_aldn 310 rfl rfl rfl rfl ?_
          refine mE_gf 313 rfl rfl (mg_ne rfl (mg_ne rfl (mg_ne rfl (mg_ne rfl (mg_ne rfl (mg_ne rfl (mg_ne rfl (mg_ne rfl mh_47)))))))) rfl rfl ?_
          refine mE_goto 317 rfl rfl ?_
          refine mE_iret rfl ⟨rfl, ?_⟩
          refine mE_istn 30 [(3, .int 0), (0, .ref 47), (1, .int 1), (2, .int f)] rfl rfl rfl rfl ?_
          refine mE_ildn 31 rfl rfl rfl rfl ?_
          refine mE_if_lt_f 34 rfl (by decide) rfl ?_
          refine mE_bip 36 (-10) rfl rfl rfl ?_
          refine mE_ildn 37 rfl rfl rfl rfl ?_
          refine mE_ico 38 1 rfl rfl rfl ?_
          refine mE_iadd 39 1 rfl rfl rfl ?_
          refine mE_imul 40 (-10) rfl rfl rfl ?_
          exact mE_iret rfl ⟨rfl, _, rfl, rfl, by simp only [List.length_set, List.length_append]; exact Nat.le_of_ble_eq_true rfl, Nat.le_of_ble_eq_true rfl⟩

set_option maxHeartbeats 4000000 in
set_option maxRecDepth 100000 in
theorem b_make_2 (f : Int32)  : mBoth 69 124 [.int 2, .int f] := by
  apply mBoth_of
  refine mR_ix [(0, .ref 0), (1, .int 2), (2, .int f)] rfl rfl rfl ?_
  refine mE_ildn 1 rfl rfl rfl rfl ?_
  refine mE_ico 2 0 rfl rfl rfl ?_
  refine mE_ico 3 2 rfl rfl rfl ?_
  refine mE_cs [.int 2, .int 0, .int 2] [] rfl rfl rfl rfl rfl ?_
  refine mR_ix [(0, .int 2), (1, .int 0), (2, .int 2)] rfl rfl rfl ?_
  refine mE_ildn 1 rfl rfl rfl rfl ?_
  refine mE_ildn 2 rfl rfl rfl rfl ?_
  refine mE_ic_lt_f 5 rfl (by decide) rfl ?_
  refine mE_ildn 6 rfl rfl rfl rfl ?_
  refine mE_ildn 7 rfl rfl rfl rfl ?_
  refine mE_ic_gt_f 10 rfl (by decide) rfl ?_
  refine mE_ico 11 1 rfl rfl rfl ?_
  refine mE_goto 15 rfl rfl ?_
  refine mE_iret rfl ⟨rfl, ?_⟩
  refine mE_if_eq_f 9 rfl (by decide) rfl ?_
  refine mE_ildn 10 rfl rfl rfl rfl ?_
  refine mE_aldn 11 rfl rfl rfl rfl ?_
  refine mE_gf 14 rfl rfl mh_0 rfl rfl ?_
  refine mE_sip 17 2000 rfl rfl rfl ?_
  refine mE_cs [.int f, .int 0, .int 2000] [] rfl rfl rfl rfl rfl ?_
  refine mR_ix [(0, .int f), (1, .int 0), (2, .int 2000)] rfl rfl rfl ?_
  refine mE_ildn 1 rfl rfl rfl rfl ?_
  refine mE_ildn 2 rfl rfl rfl rfl ?_
  refine mE_ic_lt rfl (fun h11 => ?_) (fun h11 => ?_)
  ·
    have h11 : f < (0 : Int32) := h11
    refine mE_ico 15 0 rfl rfl rfl ?_
    refine mE_iret rfl ⟨rfl, ?_⟩
    refine mE_if_ne_f 23 rfl (by decide) rfl ?_
    refine mE_ico 24 (-1) rfl rfl rfl ?_
    refine mE_iret rfl ⟨rfl, ⟨_, mh_47⟩, ?_⟩
    refine mR_ix [(0, .ref 47), (1, .int 2), (2, .int f)] rfl rfl rfl ?_
    refine mE_ildn 1 rfl rfl rfl rfl ?_
    refine mE_ico 2 0 rfl rfl rfl ?_
    refine mE_ico 3 2 rfl rfl rfl ?_
    refine mE_cs [.int 2, .int 0, .int 2] [] rfl rfl rfl rfl rfl ?_
    refine mR_ix [(0, .int 2), (1, .int 0), (2, .int 2)] rfl rfl rfl ?_
    refine mE_ildn 1 rfl rfl rfl rfl ?_
    refine mE_ildn 2 rfl rfl rfl rfl ?_
    refine mE_ic_lt_f 5 rfl (by decide) rfl ?_
    refine mE_ildn 6 rfl rfl rfl rfl ?_
    refine mE_ildn 7 rfl rfl rfl rfl ?_
    refine mE_ic_gt_f 10 rfl (by decide) rfl ?_
    refine mE_ico 11 1 rfl rfl rfl ?_
    refine mE_goto 15 rfl rfl ?_
    refine mE_iret rfl ⟨rfl, ?_⟩
    refine mE_if_eq_f 9 rfl (by decide) rfl ?_
    refine mE_ildn 10 rfl rfl rfl rfl ?_
    refine mE_aldn 11 rfl rfl rfl rfl ?_
    refine mE_gf 14 rfl rfl mh_47 rfl rfl ?_
    refine mE_sip 17 2000 rfl rfl rfl ?_
    refine mE_cs [.int f, .int 0, .int 2000] [] rfl rfl rfl rfl rfl ?_
    refine mR_ix [(0, .int f), (1, .int 0), (2, .int 2000)] rfl rfl rfl ?_
    refine mE_ildn 1 rfl rfl rfl rfl ?_
    refine mE_ildn 2 rfl rfl rfl rfl ?_
    refine mE_ic_lt rfl (fun h12 => ?_) (fun h12 => ?_)
    ·
      have h12 : f < (0 : Int32) := h12
      refine mE_ico 15 0 rfl rfl rfl ?_
      refine mE_iret rfl ⟨rfl, ?_⟩
      refine mE_if_ne_f 23 rfl (by decide) rfl ?_
      refine mE_ico 24 (-1) rfl rfl rfl ?_
      exact mE_iret rfl ⟨rfl, _, rfl, rfl, Nat.le_of_ble_eq_true rfl, Nat.le_of_ble_eq_true rfl⟩
    ·
      have h12 : ¬ (f < (0 : Int32)) := h12
      exfalso
      simp only [Int32.not_le, Int32.not_lt, Int32.le_iff_toInt_le, Int32.lt_iff_toInt_lt, mi_m1, mi_0, mi_1, mi_2, mi_4, mi_7, mi_9, mi_19, mi_40, mi_60, mi_2000, mi_10000] at h11 h12
      all_goals omega
  ·
    have h11 : ¬ (f < (0 : Int32)) := h11
    refine mE_ildn 6 rfl rfl rfl rfl ?_
    refine mE_ildn 7 rfl rfl rfl rfl ?_
    refine mE_ic_gt rfl (fun h13 => ?_) (fun h13 => ?_)
    ·
      have h13 : (2000 : Int32) < f := h13
      refine mE_ico 15 0 rfl rfl rfl ?_
      refine mE_iret rfl ⟨rfl, ?_⟩
      refine mE_if_ne_f 23 rfl (by decide) rfl ?_
      refine mE_ico 24 (-1) rfl rfl rfl ?_
      refine mE_iret rfl ⟨rfl, ⟨_, mh_47⟩, ?_⟩
      refine mR_ix [(0, .ref 47), (1, .int 2), (2, .int f)] rfl rfl rfl ?_
      refine mE_ildn 1 rfl rfl rfl rfl ?_
      refine mE_ico 2 0 rfl rfl rfl ?_
      refine mE_ico 3 2 rfl rfl rfl ?_
      refine mE_cs [.int 2, .int 0, .int 2] [] rfl rfl rfl rfl rfl ?_
      refine mR_ix [(0, .int 2), (1, .int 0), (2, .int 2)] rfl rfl rfl ?_
      refine mE_ildn 1 rfl rfl rfl rfl ?_
      refine mE_ildn 2 rfl rfl rfl rfl ?_
      refine mE_ic_lt_f 5 rfl (by decide) rfl ?_
      refine mE_ildn 6 rfl rfl rfl rfl ?_
      refine mE_ildn 7 rfl rfl rfl rfl ?_
      refine mE_ic_gt_f 10 rfl (by decide) rfl ?_
      refine mE_ico 11 1 rfl rfl rfl ?_
      refine mE_goto 15 rfl rfl ?_
      refine mE_iret rfl ⟨rfl, ?_⟩
      refine mE_if_eq_f 9 rfl (by decide) rfl ?_
      refine mE_ildn 10 rfl rfl rfl rfl ?_
      refine mE_aldn 11 rfl rfl rfl rfl ?_
      refine mE_gf 14 rfl rfl mh_47 rfl rfl ?_
      refine mE_sip 17 2000 rfl rfl rfl ?_
      refine mE_cs [.int f, .int 0, .int 2000] [] rfl rfl rfl rfl rfl ?_
      refine mR_ix [(0, .int f), (1, .int 0), (2, .int 2000)] rfl rfl rfl ?_
      refine mE_ildn 1 rfl rfl rfl rfl ?_
      refine mE_ildn 2 rfl rfl rfl rfl ?_
      refine mE_ic_lt rfl (fun h14 => ?_) (fun h14 => ?_)
      ·
        have h14 : f < (0 : Int32) := h14
        exfalso
        simp only [Int32.not_le, Int32.not_lt, Int32.le_iff_toInt_le, Int32.lt_iff_toInt_lt, mi_m1, mi_0, mi_1, mi_2, mi_4, mi_7, mi_9, mi_19, mi_40, mi_60, mi_2000, mi_10000] at h11 h13 h14
        all_goals omega
      ·
        have h14 : ¬ (f < (0 : Int32)) := h14
        refine mE_ildn 6 rfl rfl rfl rfl ?_
        refine mE_ildn 7 rfl rfl rfl rfl ?_
        refine mE_ic_gt rfl (fun h15 => ?_) (fun h15 => ?_)
        ·
          have h15 : (2000 : Int32) < f := h15
          refine mE_ico 15 0 rfl rfl rfl ?_
          refine mE_iret rfl ⟨rfl, ?_⟩
          refine mE_if_ne_f 23 rfl (by decide) rfl ?_
          refine mE_ico 24 (-1) rfl rfl rfl ?_
          exact mE_iret rfl ⟨rfl, _, rfl, rfl, Nat.le_of_ble_eq_true rfl, Nat.le_of_ble_eq_true rfl⟩
        ·
          have h15 : ¬ ((2000 : Int32) < f) := h15
          exfalso
          simp only [Int32.not_le, Int32.not_lt, Int32.le_iff_toInt_le, Int32.lt_iff_toInt_lt, mi_m1, mi_0, mi_1, mi_2, mi_4, mi_7, mi_9, mi_19, mi_40, mi_60, mi_2000, mi_10000] at h11 h13 h14 h15
          all_goals omega
    ·
      have h13 : ¬ ((2000 : Int32) < f) := h13
      refine mE_ico 11 1 rfl rfl rfl ?_
      refine mE_goto 15 rfl rfl ?_
      refine mE_iret rfl ⟨rfl, ?_⟩
      refine mE_if_ne_t 25 rfl (by decide) rfl ?_
      refine mE_aldn 26 rfl rfl rfl rfl ?_
      refine mE_ildn 27 rfl rfl rfl rfl ?_
      refine mE_ildn 28 rfl rfl rfl rfl ?_
      refine mE_cv [.int 2, .int f] [] rfl rfl rfl rfl mh_0 rfl ?_
      refine mR_ix [(0, .ref 0), (1, .int 2), (2, .int f)] rfl rfl rfl ?_
      refine mE_aldn 1 rfl rfl rfl rfl ?_
      refine mE_gf 4 rfl rfl mh_0 rfl rfl ?_
      refine mE_aldn 5 rfl rfl rfl rfl ?_
      refine mE_gf 8 rfl rfl mh_0 rfl rfl ?_
      refine mE_cv [.ref 6] [] rfl rfl rfl rfl mh_8 rfl ?_
      refine mR_ix [(0, .ref 8), (1, .ref 6)] rfl rfl rfl ?_
      refine mE_aldn 1 rfl rfl rfl rfl ?_
      refine mE_cv [] [] rfl rfl rfl rfl mh_8 rfl ?_
      refine mR_ix [(0, .ref 8)] rfl rfl rfl ?_
      refine mE_aldn 1 rfl rfl rfl rfl ?_
      refine mE_gf 4 rfl rfl mh_8 rfl rfl ?_
      refine mE_ico 5 0 rfl rfl rfl ?_
      refine mE_pf 8 rfl mh_44 rfl rfl ?_
      refine mE_aldn 9 rfl rfl rfl rfl ?_
      refine mE_ico 10 0 rfl rfl rfl ?_
      refine mE_pf 13 rfl (mg_ne rfl mh_8) rfl rfl ?_
      refine mE_aldn 14 rfl rfl rfl rfl ?_
      refine mE_ico 15 0 rfl rfl rfl ?_
      refine mE_pf 18 rfl (mg_eq (mg_ne rfl mh_8)) rfl rfl ?_
      refine mE_aldn 19 rfl rfl rfl rfl ?_
      refine mE_ico 20 0 rfl rfl rfl ?_
      refine mE_pf 23 rfl (mg_eq (mg_eq (mg_ne rfl mh_8))) rfl rfl ?_
      refine mE_aldn 24 rfl rfl rfl rfl ?_
      refine mE_ico 25 0 rfl rfl rfl ?_
      refine mE_pf 28 rfl (mg_eq (mg_eq (mg_eq (mg_ne rfl mh_8)))) rfl rfl ?_
      refine mE_aldn 29 rfl rfl rfl rfl ?_
      refine mE_ico 30 1 rfl rfl rfl ?_
      refine mE_pf 33 rfl (mg_eq (mg_eq (mg_eq (mg_eq (mg_ne rfl mh_8))))) rfl rfl ?_
      refine mE_aldn 34 rfl rfl rfl rfl ?_
      refine mE_ico 35 1 rfl rfl rfl ?_
      refine mE_pf 38 rfl (mg_eq (mg_eq (mg_eq (mg_eq (mg_eq (mg_ne rfl mh_8)))))) rfl rfl ?_
      refine mE_vret rfl ⟨rfl, ?_⟩
      refine mE_ico 5 0 rfl rfl rfl ?_
      refine mE_istn 6 [(2, .int 0), (0, .ref 8), (1, .ref 6)] rfl rfl rfl rfl ?_
      refine mE_ildn 7 rfl rfl rfl rfl ?_
      refine mE_aldn 8 rfl rfl rfl rfl ?_
      refine mE_gf 11 rfl rfl (mg_ne rfl (mg_ne rfl (mg_ne rfl (mg_ne rfl (mg_ne rfl (mg_ne rfl (mg_ne rfl mh_6))))))) rfl rfl ?_
      refine mE_ic_ge_t 56 rfl (by decide) rfl ?_
      refine mE_aldn 57 rfl rfl rfl rfl ?_
      refine mE_gf 60 rfl rfl (mg_eq (mg_eq (mg_eq (mg_eq (mg_eq (mg_eq (mg_ne rfl mh_8))))))) rfl rfl ?_
      refine mE_if_ne_t 70 rfl (by decide) rfl ?_
      refine mE_aldn 71 rfl rfl rfl rfl ?_
      refine mE_gf 74 rfl rfl (mg_ne rfl (mg_ne rfl (mg_ne rfl (mg_ne rfl (mg_ne rfl (mg_ne rfl (mg_ne rfl mh_6))))))) rfl rfl ?_
      refine mE_iret rfl ⟨rfl, ?_⟩
      refine mE_istn 12 [(3, .int 0), (0, .ref 0), (1, .int 2), (2, .int f)] rfl rfl rfl rfl ?_
      refine mE_ildn 13 rfl rfl rfl rfl ?_
      refine mE_ico 14 (-1) rfl rfl rfl ?_
      refine mE_ic_eq_f 17 rfl (by decide) rfl ?_
      refine mE_bip 19 (-10) rfl rfl rfl ?_
      refine mE_ildn 20 rfl rfl rfl rfl ?_
      refine mE_ico 21 1 rfl rfl rfl ?_
      refine mE_iadd 22 1 rfl rfl rfl ?_
      refine mE_imul 23 (-10) rfl rfl rfl ?_
      refine mE_iret rfl ⟨rfl, ?_⟩
      refine mE_iret rfl ⟨rfl, ⟨_, (mg_ne rfl (mg_ne rfl (mg_ne rfl (mg_ne rfl (mg_ne rfl (mg_ne rfl (mg_ne rfl mh_47)))))))⟩, ?_⟩
      refine mR_ix [(0, .ref 47), (1, .int 2), (2, .int f)] rfl rfl rfl ?_
      refine mE_ildn 1 rfl rfl rfl rfl ?_
      refine mE_ico 2 0 rfl rfl rfl ?_
      refine mE_ico 3 2 rfl rfl rfl ?_
      refine mE_cs [.int 2, .int 0, .int 2] [] rfl rfl rfl rfl rfl ?_
      refine mR_ix [(0, .int 2), (1, .int 0), (2, .int 2)] rfl rfl rfl ?_
      refine mE_ildn 1 rfl rfl rfl rfl ?_
      refine mE_ildn 2 rfl rfl rfl rfl ?_
      refine mE_ic_lt_f 5 rfl (by decide) rfl ?_
      refine mE_ildn 6 rfl rfl rfl rfl ?_
      refine mE_ildn 7 rfl rfl rfl rfl ?_
      refine mE_ic_gt_f 10 rfl (by decide) rfl ?_
      refine mE_ico 11 1 rfl rfl rfl ?_
      refine mE_goto 15 rfl rfl ?_
      refine mE_iret rfl ⟨rfl, ?_⟩
      refine mE_if_eq_f 9 rfl (by decide) rfl ?_
      refine mE_ildn 10 rfl rfl rfl rfl ?_
      refine mE_aldn 11 rfl rfl rfl rfl ?_
      refine mE_gf 14 rfl rfl (mg_ne rfl (mg_ne rfl (mg_ne rfl (mg_ne rfl (mg_ne rfl (mg_ne rfl (mg_ne rfl mh_47))))))) rfl rfl ?_
      refine mE_sip 17 2000 rfl rfl rfl ?_
      refine mE_cs [.int f, .int 0, .int 2000] [] rfl rfl rfl rfl rfl ?_
      refine mR_ix [(0, .int f), (1, .int 0), (2, .int 2000)] rfl rfl rfl ?_
      refine mE_ildn 1 rfl rfl rfl rfl ?_
      refine mE_ildn 2 rfl rfl rfl rfl ?_
      refine mE_ic_lt rfl (fun h16 => ?_) (fun h16 => ?_)
      ·
        have h16 : f < (0 : Int32) := h16
        exfalso
        simp only [Int32.not_le, Int32.not_lt, Int32.le_iff_toInt_le, Int32.lt_iff_toInt_lt, mi_m1, mi_0, mi_1, mi_2, mi_4, mi_7, mi_9, mi_19, mi_40, mi_60, mi_2000, mi_10000] at h11 h13 h16
        all_goals omega
      ·
        have h16 : ¬ (f < (0 : Int32)) := h16
        refine mE_ildn 6 rfl rfl rfl rfl ?_
        refine mE_ildn 7 rfl rfl rfl rfl ?_
        refine mE_ic_gt rfl (fun h17 => ?_) (fun h17 => ?_)
        ·
          have h17 : (2000 : Int32) < f := h17
          exfalso
          simp only [Int32.not_le, Int32.not_lt, Int32.le_iff_toInt_le, Int32.lt_iff_toInt_lt, mi_m1, mi_0, mi_1, mi_2, mi_4, mi_7, mi_9, mi_19, mi_40, mi_60, mi_2000, mi_10000] at h11 h13 h16 h17
          all_goals omega
        ·
          have h17 : ¬ ((2000 : Int32) < f) := h17
          refine mE_ico 11 1 rfl rfl rfl ?_
          refine mE_goto 15 rfl rfl ?_
          refine mE_iret rfl ⟨rfl, ?_⟩
          refine mE_if_ne_t 25 rfl (by decide) rfl ?_
          refine mE_aldn 26 rfl rfl rfl rfl ?_
          refine mE_cv [] [] rfl rfl rfl rfl (mg_ne rfl (mg_ne rfl (mg_ne rfl (mg_ne rfl (mg_ne rfl (mg_ne rfl (mg_ne rfl mh_47))))))) rfl ?_
          refine mR_ix [(0, .ref 47)] rfl rfl rfl ?_
          refine mE_ico 1 0 rfl rfl rfl ?_
          refine mE_istn 2 [(1, .int 0), (0, .ref 47)] rfl rfl rfl rfl ?_
          refine mE_ico 3 0 rfl rfl rfl ?_
          refine mE_istn 4 [(2, .int 0), (1, .int 0), (0, .ref 47)] rfl rfl rfl rfl ?_
          refine mE_ico 5 1 rfl rfl rfl ?_
          refine mE_istn 6 [(3, .int 1), (2, .int 0), (1, .int 0), (0, .ref 47)] rfl rfl rfl rfl ?_
          refine mE_ico 7 1 rfl rfl rfl ?_
          refine mE_ist 9 [(4, .int 1), (3, .int 1), (2, .int 0), (1, .int 0), (0, .ref 47)] rfl rfl rfl rfl ?_
          refine mE_aldn 10 rfl rfl rfl rfl ?_
          refine mE_gf 13 rfl rfl (mg_ne rfl (mg_ne rfl (mg_ne rfl (mg_ne rfl (mg_ne rfl (mg_ne rfl (mg_ne rfl mh_47))))))) rfl rfl ?_
          refine mE_ico 14 0 rfl rfl rfl ?_
          refine mE_ico 15 0 rfl rfl rfl ?_
          refine mE_bsa 16 0 rfl (mg_ne rfl (mg_ne rfl (mg_ne rfl (mg_ne rfl (mg_ne rfl (mg_ne rfl (mg_ne rfl mh_71))))))) rfl rfl (show ¬ ((0 : Int32) < 0 ∨ 13 ≤ 0) by decide) rfl ?_
          refine mE_ico 17 0 rfl rfl rfl ?_
          refine mE_ist 19 [(5, .int 0), (4, .int 1), (3, .int 1), (2, .int 0), (1, .int 0), (0, .ref 47)] rfl rfl rfl rfl ?_
          refine mE_ild 21 rfl rfl rfl rfl ?_
          refine mE_aldn 22 rfl rfl rfl rfl ?_
          refine mE_gf 25 rfl rfl (mg_ne rfl (mg_ne rfl (mg_ne rfl (mg_ne rfl (mg_ne rfl (mg_ne rfl (mg_ne rfl (mg_ne rfl mh_47)))))))) rfl rfl ?_
          refine mE_ic_ge_t 301 rfl (by decide) rfl ?_
          refine mE_ildn 302 rfl rfl rfl rfl ?_
          refine mE_if_ne_t 309 rfl (by decide) rfl ?_
          refine mE_aldn 310 rfl rfl rfl rfl ?_
          refine mE_gf 313 rfl rfl (mg_ne rfl (mg_ne rfl (mg_ne rfl (mg_ne rfl (mg_ne rfl (mg_ne rfl (mg_ne rfl (mg_ne rfl mh_47)))))))) rfl rfl ?_
          refine mE_goto 317 rfl rfl ?_
          refine mE_iret rfl ⟨rfl, ?_⟩
          refine mE_istn 30 [(3, .int 0), (0, .ref 47), (1, .int 2), (2, .int f)] rfl rfl rfl rfl ?_
          refine mE_ildn 31 rfl rfl rfl rfl ?_
          refine mE_if_lt_f 34 rfl (by decide) rfl ?_
          refine mE_bip 36 (-10) rfl rfl rfl ?_
          refine mE_ildn 37 rfl rfl rfl rfl ?_
          refine mE_ico 38 1 rfl rfl rfl ?_
          refine mE_iadd 39 1 rfl rfl rfl ?_
          refine mE_imul 40 (-10) rfl rfl rfl ?_
          exact mE_iret rfl ⟨rfl, _, rfl, rfl, by simp only [List.length_set, List.length_append]; exact Nat.le_of_ble_eq_true rfl, Nat.le_of_ble_eq_true rfl⟩

set_option maxHeartbeats 4000000 in
set_option maxRecDepth 100000 in
theorem b_text_0_lo (i : Int32) (h0 : i < (0 : Int32)) : mBoth 72 127 [.int 0, .int i] := by
  apply mBoth_of
  refine mR_ix [(0, .ref 0), (1, .int 0), (2, .int i)] rfl rfl rfl ?_
  refine mE_ildn 1 rfl rfl rfl rfl ?_
  refine mE_ico 2 0 rfl rfl rfl ?_
  refine mE_ico 3 2 rfl rfl rfl ?_
  refine mE_cs [.int 0, .int 0, .int 2] [] rfl rfl rfl rfl rfl ?_
  refine mR_ix [(0, .int 0), (1, .int 0), (2, .int 2)] rfl rfl rfl ?_
  refine mE_ildn 1 rfl rfl rfl rfl ?_
  refine mE_ildn 2 rfl rfl rfl rfl ?_
  refine mE_ic_lt_f 5 rfl (by decide) rfl ?_
  refine mE_ildn 6 rfl rfl rfl rfl ?_
  refine mE_ildn 7 rfl rfl rfl rfl ?_
  refine mE_ic_gt_f 10 rfl (by decide) rfl ?_
  refine mE_ico 11 1 rfl rfl rfl ?_
  refine mE_goto 15 rfl rfl ?_
  refine mE_iret rfl ⟨rfl, ?_⟩
  refine mE_if_eq_f 9 rfl (by decide) rfl ?_
  refine mE_ildn 10 rfl rfl rfl rfl ?_
  refine mE_ico 11 0 rfl rfl rfl ?_
  refine mE_aldn 12 rfl rfl rfl rfl ?_
  refine mE_gf 15 rfl rfl mh_0 rfl rfl ?_
  refine mE_ildn 16 rfl rfl rfl rfl ?_
  refine mE_qla 17 rfl mh_5 rfl (by decide) rfl rfl ?_
  refine mE_gf 20 rfl rfl mh_26 rfl rfl ?_
  refine mE_gf 23 rfl rfl mh_10 rfl rfl ?_
  refine mE_ico 24 1 rfl rfl rfl ?_
  refine mE_isub 25 0 rfl rfl rfl ?_
  refine mE_cs [.int i, .int 0, .int 0] [] rfl rfl rfl rfl rfl ?_
  refine mR_ix [(0, .int i), (1, .int 0), (2, .int 0)] rfl rfl rfl ?_
  refine mE_ildn 1 rfl rfl rfl rfl ?_
  refine mE_ildn 2 rfl rfl rfl rfl ?_
  refine mE_ic_lt rfl (fun h11 => ?_) (fun h11 => ?_)
  ·
    have h11 : i < (0 : Int32) := h11
    refine mE_ico 15 0 rfl rfl rfl ?_
    refine mE_iret rfl ⟨rfl, ?_⟩
    refine mE_if_ne_f 31 rfl (by decide) rfl ?_
    refine mE_ico 32 (-1) rfl rfl rfl ?_
    refine mE_iret rfl ⟨rfl, ⟨_, mh_47⟩, ?_⟩
    refine mR_ix [(0, .ref 47), (1, .int 0), (2, .int i)] rfl rfl rfl ?_
    refine mE_ildn 1 rfl rfl rfl rfl ?_
    refine mE_ico 2 0 rfl rfl rfl ?_
    refine mE_ico 3 2 rfl rfl rfl ?_
    refine mE_cs [.int 0, .int 0, .int 2] [] rfl rfl rfl rfl rfl ?_
    refine mR_ix [(0, .int 0), (1, .int 0), (2, .int 2)] rfl rfl rfl ?_
    refine mE_ildn 1 rfl rfl rfl rfl ?_
    refine mE_ildn 2 rfl rfl rfl rfl ?_
    refine mE_ic_lt_f 5 rfl (by decide) rfl ?_
    refine mE_ildn 6 rfl rfl rfl rfl ?_
    refine mE_ildn 7 rfl rfl rfl rfl ?_
    refine mE_ic_gt_f 10 rfl (by decide) rfl ?_
    refine mE_ico 11 1 rfl rfl rfl ?_
    refine mE_goto 15 rfl rfl ?_
    refine mE_iret rfl ⟨rfl, ?_⟩
    refine mE_if_ne_t 11 rfl (by decide) rfl ?_
    refine mE_aldn 12 rfl rfl rfl rfl ?_
    refine mE_ildn 13 rfl rfl rfl rfl ?_
    refine mE_cv [.int 0] [] rfl rfl rfl rfl mh_47 rfl ?_
    refine mR_ix [(0, .ref 47), (1, .int 0)] rfl rfl rfl ?_
    refine mE_aldn 1 rfl rfl rfl rfl ?_
    refine mE_gf 4 rfl rfl mh_47 rfl rfl ?_
    refine mE_ico 5 2 rfl rfl rfl ?_
    refine mE_ildn 6 rfl rfl rfl rfl ?_
    refine mE_imul 7 0 rfl rfl rfl ?_
    refine mE_ico 8 1 rfl rfl rfl ?_
    refine mE_iadd 9 1 rfl rfl rfl ?_
    refine mE_ila 10 rfl mh_69 (by decide) rfl rfl ?_
    refine mE_if_le_t 103 rfl (by decide) rfl ?_
    refine mE_vret rfl ⟨rfl, ?_⟩
    refine mE_ildn 17 rfl rfl rfl rfl ?_
    refine mE_if_lt rfl (fun h12 => ?_) (fun h12 => ?_)
    ·
      have h12 : i < (0 : Int32) := h12
      refine mE_ico 49 (-1) rfl rfl rfl ?_
      exact mE_iret rfl ⟨rfl, _, rfl, rfl, Nat.le_of_ble_eq_true rfl, Nat.le_of_ble_eq_true rfl⟩
    ·
      have h12 : ¬ (i < (0 : Int32)) := h12
      exfalso
      simp only [Int32.not_le, Int32.not_lt, Int32.le_iff_toInt_le, Int32.lt_iff_toInt_lt, mi_m1, mi_0, mi_1, mi_2, mi_4, mi_7, mi_9, mi_19, mi_40, mi_60, mi_2000, mi_10000] at h0 h11 h12
      all_goals omega
  ·
    have h11 : ¬ (i < (0 : Int32)) := h11
    exfalso
    simp only [Int32.not_le, Int32.not_lt, Int32.le_iff_toInt_le, Int32.lt_iff_toInt_lt, mi_m1, mi_0, mi_1, mi_2, mi_4, mi_7, mi_9, mi_19, mi_40, mi_60, mi_2000, mi_10000] at h0 h11
    all_goals omega

set_option maxHeartbeats 4000000 in
set_option maxRecDepth 100000 in
theorem b_text_0_hi (i : Int32) (h0 : (0 : Int32) < i) : mBoth 72 127 [.int 0, .int i] := by
  apply mBoth_of
  refine mR_ix [(0, .ref 0), (1, .int 0), (2, .int i)] rfl rfl rfl ?_
  refine mE_ildn 1 rfl rfl rfl rfl ?_
  refine mE_ico 2 0 rfl rfl rfl ?_
  refine mE_ico 3 2 rfl rfl rfl ?_
  refine mE_cs [.int 0, .int 0, .int 2] [] rfl rfl rfl rfl rfl ?_
  refine mR_ix [(0, .int 0), (1, .int 0), (2, .int 2)] rfl rfl rfl ?_
  refine mE_ildn 1 rfl rfl rfl rfl ?_
  refine mE_ildn 2 rfl rfl rfl rfl ?_
  refine mE_ic_lt_f 5 rfl (by decide) rfl ?_
  refine mE_ildn 6 rfl rfl rfl rfl ?_
  refine mE_ildn 7 rfl rfl rfl rfl ?_
  refine mE_ic_gt_f 10 rfl (by decide) rfl ?_
  refine mE_ico 11 1 rfl rfl rfl ?_
  refine mE_goto 15 rfl rfl ?_
  refine mE_iret rfl ⟨rfl, ?_⟩
  refine mE_if_eq_f 9 rfl (by decide) rfl ?_
  refine mE_ildn 10 rfl rfl rfl rfl ?_
  refine mE_ico 11 0 rfl rfl rfl ?_
  refine mE_aldn 12 rfl rfl rfl rfl ?_
  refine mE_gf 15 rfl rfl mh_0 rfl rfl ?_
  refine mE_ildn 16 rfl rfl rfl rfl ?_
  refine mE_qla 17 rfl mh_5 rfl (by decide) rfl rfl ?_
  refine mE_gf 20 rfl rfl mh_26 rfl rfl ?_
  refine mE_gf 23 rfl rfl mh_10 rfl rfl ?_
  refine mE_ico 24 1 rfl rfl rfl ?_
  refine mE_isub 25 0 rfl rfl rfl ?_
  refine mE_cs [.int i, .int 0, .int 0] [] rfl rfl rfl rfl rfl ?_
  refine mR_ix [(0, .int i), (1, .int 0), (2, .int 0)] rfl rfl rfl ?_
  refine mE_ildn 1 rfl rfl rfl rfl ?_
  refine mE_ildn 2 rfl rfl rfl rfl ?_
  refine mE_ic_lt rfl (fun h11 => ?_) (fun h11 => ?_)
  ·
    have h11 : i < (0 : Int32) := h11
    exfalso
    simp only [Int32.not_le, Int32.not_lt, Int32.le_iff_toInt_le, Int32.lt_iff_toInt_lt, mi_m1, mi_0, mi_1, mi_2, mi_4, mi_7, mi_9, mi_19, mi_40, mi_60, mi_2000, mi_10000] at h0 h11
    all_goals omega
  ·
    have h11 : ¬ (i < (0 : Int32)) := h11
    refine mE_ildn 6 rfl rfl rfl rfl ?_
    refine mE_ildn 7 rfl rfl rfl rfl ?_
    refine mE_ic_gt rfl (fun h12 => ?_) (fun h12 => ?_)
    ·
      have h12 : (0 : Int32) < i := h12
      refine mE_ico 15 0 rfl rfl rfl ?_
      refine mE_iret rfl ⟨rfl, ?_⟩
      refine mE_if_ne_f 31 rfl (by decide) rfl ?_
      refine mE_ico 32 (-1) rfl rfl rfl ?_
      refine mE_iret rfl ⟨rfl, ⟨_, mh_47⟩, ?_⟩
      refine mR_ix [(0, .ref 47), (1, .int 0), (2, .int i)] rfl rfl rfl ?_
      refine mE_ildn 1 rfl rfl rfl rfl ?_
      refine mE_ico 2 0 rfl rfl rfl ?_
      refine mE_ico 3 2 rfl rfl rfl ?_
      refine mE_cs [.int 0, .int 0, .int 2] [] rfl rfl rfl rfl rfl ?_
      refine mR_ix [(0, .int 0), (1, .int 0), (2, .int 2)] rfl rfl rfl ?_
      refine mE_ildn 1 rfl rfl rfl rfl ?_
      refine mE_ildn 2 rfl rfl rfl rfl ?_
      refine mE_ic_lt_f 5 rfl (by decide) rfl ?_
      refine mE_ildn 6 rfl rfl rfl rfl ?_
      refine mE_ildn 7 rfl rfl rfl rfl ?_
      refine mE_ic_gt_f 10 rfl (by decide) rfl ?_
      refine mE_ico 11 1 rfl rfl rfl ?_
      refine mE_goto 15 rfl rfl ?_
      refine mE_iret rfl ⟨rfl, ?_⟩
      refine mE_if_ne_t 11 rfl (by decide) rfl ?_
      refine mE_aldn 12 rfl rfl rfl rfl ?_
      refine mE_ildn 13 rfl rfl rfl rfl ?_
      refine mE_cv [.int 0] [] rfl rfl rfl rfl mh_47 rfl ?_
      refine mR_ix [(0, .ref 47), (1, .int 0)] rfl rfl rfl ?_
      refine mE_aldn 1 rfl rfl rfl rfl ?_
      refine mE_gf 4 rfl rfl mh_47 rfl rfl ?_
      refine mE_ico 5 2 rfl rfl rfl ?_
      refine mE_ildn 6 rfl rfl rfl rfl ?_
      refine mE_imul 7 0 rfl rfl rfl ?_
      refine mE_ico 8 1 rfl rfl rfl ?_
      refine mE_iadd 9 1 rfl rfl rfl ?_
      refine mE_ila 10 rfl mh_69 (by decide) rfl rfl ?_
      refine mE_if_le_t 103 rfl (by decide) rfl ?_
      refine mE_vret rfl ⟨rfl, ?_⟩
      refine mE_ildn 17 rfl rfl rfl rfl ?_
      refine mE_if_lt rfl (fun h13 => ?_) (fun h13 => ?_)
      ·
        have h13 : i < (0 : Int32) := h13
        exfalso
        simp only [Int32.not_le, Int32.not_lt, Int32.le_iff_toInt_le, Int32.lt_iff_toInt_lt, mi_m1, mi_0, mi_1, mi_2, mi_4, mi_7, mi_9, mi_19, mi_40, mi_60, mi_2000, mi_10000] at h0 h11 h12 h13
        all_goals omega
      ·
        have h13 : ¬ (i < (0 : Int32)) := h13
        refine mE_ildn 21 rfl rfl rfl rfl ?_
        refine mE_aldn 22 rfl rfl rfl rfl ?_
        refine mE_gf 25 rfl rfl mh_47 rfl rfl ?_
        refine mE_ico 26 2 rfl rfl rfl ?_
        refine mE_ildn 27 rfl rfl rfl rfl ?_
        refine mE_imul 28 0 rfl rfl rfl ?_
        refine mE_ila 29 rfl mh_69 (by decide) rfl rfl ?_
        refine mE_ic_ge rfl (fun h14 => ?_) (fun h14 => ?_)
        ·
          have h14 : (1 : Int32) ≤ i := h14
          refine mE_ico 49 (-1) rfl rfl rfl ?_
          exact mE_iret rfl ⟨rfl, _, rfl, rfl, Nat.le_of_ble_eq_true rfl, Nat.le_of_ble_eq_true rfl⟩
        ·
          have h14 : ¬ ((1 : Int32) ≤ i) := h14
          exfalso
          simp only [Int32.not_le, Int32.not_lt, Int32.le_iff_toInt_le, Int32.lt_iff_toInt_lt, mi_m1, mi_0, mi_1, mi_2, mi_4, mi_7, mi_9, mi_19, mi_40, mi_60, mi_2000, mi_10000] at h0 h11 h12 h13 h14
          all_goals omega
    ·
      have h12 : ¬ ((0 : Int32) < i) := h12
      exfalso
      simp only [Int32.not_le, Int32.not_lt, Int32.le_iff_toInt_le, Int32.lt_iff_toInt_lt, mi_m1, mi_0, mi_1, mi_2, mi_4, mi_7, mi_9, mi_19, mi_40, mi_60, mi_2000, mi_10000] at h0 h11 h12
      all_goals omega

set_option maxHeartbeats 4000000 in
set_option maxRecDepth 100000 in
theorem b_text_1_lo (i : Int32) (h0 : i < (0 : Int32)) : mBoth 72 127 [.int 1, .int i] := by
  apply mBoth_of
  refine mR_ix [(0, .ref 0), (1, .int 1), (2, .int i)] rfl rfl rfl ?_
  refine mE_ildn 1 rfl rfl rfl rfl ?_
  refine mE_ico 2 0 rfl rfl rfl ?_
  refine mE_ico 3 2 rfl rfl rfl ?_
  refine mE_cs [.int 1, .int 0, .int 2] [] rfl rfl rfl rfl rfl ?_
  refine mR_ix [(0, .int 1), (1, .int 0), (2, .int 2)] rfl rfl rfl ?_
  refine mE_ildn 1 rfl rfl rfl rfl ?_
  refine mE_ildn 2 rfl rfl rfl rfl ?_
  refine mE_ic_lt_f 5 rfl (by decide) rfl ?_
  refine mE_ildn 6 rfl rfl rfl rfl ?_
  refine mE_ildn 7 rfl rfl rfl rfl ?_
  refine mE_ic_gt_f 10 rfl (by decide) rfl ?_
  refine mE_ico 11 1 rfl rfl rfl ?_
  refine mE_goto 15 rfl rfl ?_
  refine mE_iret rfl ⟨rfl, ?_⟩
  refine mE_if_eq_f 9 rfl (by decide) rfl ?_
  refine mE_ildn 10 rfl rfl rfl rfl ?_
  refine mE_ico 11 0 rfl rfl rfl ?_
  refine mE_aldn 12 rfl rfl rfl rfl ?_
  refine mE_gf 15 rfl rfl mh_0 rfl rfl ?_
  refine mE_ildn 16 rfl rfl rfl rfl ?_
  refine mE_qla 17 rfl mh_5 rfl (by decide) rfl rfl ?_
  refine mE_gf 20 rfl rfl mh_33 rfl rfl ?_
  refine mE_gf 23 rfl rfl mh_30 rfl rfl ?_
  refine mE_ico 24 1 rfl rfl rfl ?_
  refine mE_isub 25 0 rfl rfl rfl ?_
  refine mE_cs [.int i, .int 0, .int 0] [] rfl rfl rfl rfl rfl ?_
  refine mR_ix [(0, .int i), (1, .int 0), (2, .int 0)] rfl rfl rfl ?_
  refine mE_ildn 1 rfl rfl rfl rfl ?_
  refine mE_ildn 2 rfl rfl rfl rfl ?_
  refine mE_ic_lt rfl (fun h11 => ?_) (fun h11 => ?_)
  ·
    have h11 : i < (0 : Int32) := h11
    refine mE_ico 15 0 rfl rfl rfl ?_
    refine mE_iret rfl ⟨rfl, ?_⟩
    refine mE_if_ne_f 31 rfl (by decide) rfl ?_
    refine mE_ico 32 (-1) rfl rfl rfl ?_
    refine mE_iret rfl ⟨rfl, ⟨_, mh_47⟩, ?_⟩
    refine mR_ix [(0, .ref 47), (1, .int 1), (2, .int i)] rfl rfl rfl ?_
    refine mE_ildn 1 rfl rfl rfl rfl ?_
    refine mE_ico 2 0 rfl rfl rfl ?_
    refine mE_ico 3 2 rfl rfl rfl ?_
    refine mE_cs [.int 1, .int 0, .int 2] [] rfl rfl rfl rfl rfl ?_
    refine mR_ix [(0, .int 1), (1, .int 0), (2, .int 2)] rfl rfl rfl ?_
    refine mE_ildn 1 rfl rfl rfl rfl ?_
    refine mE_ildn 2 rfl rfl rfl rfl ?_
    refine mE_ic_lt_f 5 rfl (by decide) rfl ?_
    refine mE_ildn 6 rfl rfl rfl rfl ?_
    refine mE_ildn 7 rfl rfl rfl rfl ?_
    refine mE_ic_gt_f 10 rfl (by decide) rfl ?_
    refine mE_ico 11 1 rfl rfl rfl ?_
    refine mE_goto 15 rfl rfl ?_
    refine mE_iret rfl ⟨rfl, ?_⟩
    refine mE_if_ne_t 11 rfl (by decide) rfl ?_
    refine mE_aldn 12 rfl rfl rfl rfl ?_
    refine mE_ildn 13 rfl rfl rfl rfl ?_
    refine mE_cv [.int 1] [] rfl rfl rfl rfl mh_47 rfl ?_
    refine mR_ix [(0, .ref 47), (1, .int 1)] rfl rfl rfl ?_
    refine mE_aldn 1 rfl rfl rfl rfl ?_
    refine mE_gf 4 rfl rfl mh_47 rfl rfl ?_
    refine mE_ico 5 2 rfl rfl rfl ?_
    refine mE_ildn 6 rfl rfl rfl rfl ?_
    refine mE_imul 7 2 rfl rfl rfl ?_
    refine mE_ico 8 1 rfl rfl rfl ?_
    refine mE_iadd 9 3 rfl rfl rfl ?_
    refine mE_ila 10 rfl mh_69 (by decide) rfl rfl ?_
    refine mE_if_le_t 103 rfl (by decide) rfl ?_
    refine mE_vret rfl ⟨rfl, ?_⟩
    refine mE_ildn 17 rfl rfl rfl rfl ?_
    refine mE_if_lt rfl (fun h12 => ?_) (fun h12 => ?_)
    ·
      have h12 : i < (0 : Int32) := h12
      refine mE_ico 49 (-1) rfl rfl rfl ?_
      exact mE_iret rfl ⟨rfl, _, rfl, rfl, Nat.le_of_ble_eq_true rfl, Nat.le_of_ble_eq_true rfl⟩
    ·
      have h12 : ¬ (i < (0 : Int32)) := h12
      exfalso
      simp only [Int32.not_le, Int32.not_lt, Int32.le_iff_toInt_le, Int32.lt_iff_toInt_lt, mi_m1, mi_0, mi_1, mi_2, mi_4, mi_7, mi_9, mi_19, mi_40, mi_60, mi_2000, mi_10000] at h0 h11 h12
      all_goals omega
  ·
    have h11 : ¬ (i < (0 : Int32)) := h11
    exfalso
    simp only [Int32.not_le, Int32.not_lt, Int32.le_iff_toInt_le, Int32.lt_iff_toInt_lt, mi_m1, mi_0, mi_1, mi_2, mi_4, mi_7, mi_9, mi_19, mi_40, mi_60, mi_2000, mi_10000] at h0 h11
    all_goals omega

set_option maxHeartbeats 4000000 in
set_option maxRecDepth 100000 in
theorem b_text_1_hi (i : Int32) (h0 : (0 : Int32) < i) : mBoth 72 127 [.int 1, .int i] := by
  apply mBoth_of
  refine mR_ix [(0, .ref 0), (1, .int 1), (2, .int i)] rfl rfl rfl ?_
  refine mE_ildn 1 rfl rfl rfl rfl ?_
  refine mE_ico 2 0 rfl rfl rfl ?_
  refine mE_ico 3 2 rfl rfl rfl ?_
  refine mE_cs [.int 1, .int 0, .int 2] [] rfl rfl rfl rfl rfl ?_
  refine mR_ix [(0, .int 1), (1, .int 0), (2, .int 2)] rfl rfl rfl ?_
  refine mE_ildn 1 rfl rfl rfl rfl ?_
  refine mE_ildn 2 rfl rfl rfl rfl ?_
  refine mE_ic_lt_f 5 rfl (by decide) rfl ?_
  refine mE_ildn 6 rfl rfl rfl rfl ?_
  refine mE_ildn 7 rfl rfl rfl rfl ?_
  refine mE_ic_gt_f 10 rfl (by decide) rfl ?_
  refine mE_ico 11 1 rfl rfl rfl ?_
  refine mE_goto 15 rfl rfl ?_
  refine mE_iret rfl ⟨rfl, ?_⟩
  refine mE_if_eq_f 9 rfl (by decide) rfl ?_
  refine mE_ildn 10 rfl rfl rfl rfl ?_
  refine mE_ico 11 0 rfl rfl rfl ?_
  refine mE_aldn 12 rfl rfl rfl rfl ?_
  refine mE_gf 15 rfl rfl mh_0 rfl rfl ?_
  refine mE_ildn 16 rfl rfl rfl rfl ?_
  refine mE_qla 17 rfl mh_5 rfl (by decide) rfl rfl ?_
  refine mE_gf 20 rfl rfl mh_33 rfl rfl ?_
  refine mE_gf 23 rfl rfl mh_30 rfl rfl ?_
  refine mE_ico 24 1 rfl rfl rfl ?_
  refine mE_isub 25 0 rfl rfl rfl ?_
  refine mE_cs [.int i, .int 0, .int 0] [] rfl rfl rfl rfl rfl ?_
  refine mR_ix [(0, .int i), (1, .int 0), (2, .int 0)] rfl rfl rfl ?_
  refine mE_ildn 1 rfl rfl rfl rfl ?_
  refine mE_ildn 2 rfl rfl rfl rfl ?_
  refine mE_ic_lt rfl (fun h11 => ?_) (fun h11 => ?_)
  ·
    have h11 : i < (0 : Int32) := h11
    exfalso
    simp only [Int32.not_le, Int32.not_lt, Int32.le_iff_toInt_le, Int32.lt_iff_toInt_lt, mi_m1, mi_0, mi_1, mi_2, mi_4, mi_7, mi_9, mi_19, mi_40, mi_60, mi_2000, mi_10000] at h0 h11
    all_goals omega
  ·
    have h11 : ¬ (i < (0 : Int32)) := h11
    refine mE_ildn 6 rfl rfl rfl rfl ?_
    refine mE_ildn 7 rfl rfl rfl rfl ?_
    refine mE_ic_gt rfl (fun h12 => ?_) (fun h12 => ?_)
    ·
      have h12 : (0 : Int32) < i := h12
      refine mE_ico 15 0 rfl rfl rfl ?_
      refine mE_iret rfl ⟨rfl, ?_⟩
      refine mE_if_ne_f 31 rfl (by decide) rfl ?_
      refine mE_ico 32 (-1) rfl rfl rfl ?_
      refine mE_iret rfl ⟨rfl, ⟨_, mh_47⟩, ?_⟩
      refine mR_ix [(0, .ref 47), (1, .int 1), (2, .int i)] rfl rfl rfl ?_
      refine mE_ildn 1 rfl rfl rfl rfl ?_
      refine mE_ico 2 0 rfl rfl rfl ?_
      refine mE_ico 3 2 rfl rfl rfl ?_
      refine mE_cs [.int 1, .int 0, .int 2] [] rfl rfl rfl rfl rfl ?_
      refine mR_ix [(0, .int 1), (1, .int 0), (2, .int 2)] rfl rfl rfl ?_
      refine mE_ildn 1 rfl rfl rfl rfl ?_
      refine mE_ildn 2 rfl rfl rfl rfl ?_
      refine mE_ic_lt_f 5 rfl (by decide) rfl ?_
      refine mE_ildn 6 rfl rfl rfl rfl ?_
      refine mE_ildn 7 rfl rfl rfl rfl ?_
      refine mE_ic_gt_f 10 rfl (by decide) rfl ?_
      refine mE_ico 11 1 rfl rfl rfl ?_
      refine mE_goto 15 rfl rfl ?_
      refine mE_iret rfl ⟨rfl, ?_⟩
      refine mE_if_ne_t 11 rfl (by decide) rfl ?_
      refine mE_aldn 12 rfl rfl rfl rfl ?_
      refine mE_ildn 13 rfl rfl rfl rfl ?_
      refine mE_cv [.int 1] [] rfl rfl rfl rfl mh_47 rfl ?_
      refine mR_ix [(0, .ref 47), (1, .int 1)] rfl rfl rfl ?_
      refine mE_aldn 1 rfl rfl rfl rfl ?_
      refine mE_gf 4 rfl rfl mh_47 rfl rfl ?_
      refine mE_ico 5 2 rfl rfl rfl ?_
      refine mE_ildn 6 rfl rfl rfl rfl ?_
      refine mE_imul 7 2 rfl rfl rfl ?_
      refine mE_ico 8 1 rfl rfl rfl ?_
      refine mE_iadd 9 3 rfl rfl rfl ?_
      refine mE_ila 10 rfl mh_69 (by decide) rfl rfl ?_
      refine mE_if_le_t 103 rfl (by decide) rfl ?_
      refine mE_vret rfl ⟨rfl, ?_⟩
      refine mE_ildn 17 rfl rfl rfl rfl ?_
      refine mE_if_lt rfl (fun h13 => ?_) (fun h13 => ?_)
      ·
        have h13 : i < (0 : Int32) := h13
        exfalso
        simp only [Int32.not_le, Int32.not_lt, Int32.le_iff_toInt_le, Int32.lt_iff_toInt_lt, mi_m1, mi_0, mi_1, mi_2, mi_4, mi_7, mi_9, mi_19, mi_40, mi_60, mi_2000, mi_10000] at h0 h11 h12 h13
        all_goals omega
      ·
        have h13 : ¬ (i < (0 : Int32)) := h13
        refine mE_ildn 21 rfl rfl rfl rfl ?_
        refine mE_aldn 22 rfl rfl rfl rfl ?_
        refine mE_gf 25 rfl rfl mh_47 rfl rfl ?_
        refine mE_ico 26 2 rfl rfl rfl ?_
        refine mE_ildn 27 rfl rfl rfl rfl ?_
        refine mE_imul 28 2 rfl rfl rfl ?_
        refine mE_ila 29 rfl mh_69 (by decide) rfl rfl ?_
        refine mE_ic_ge rfl (fun h14 => ?_) (fun h14 => ?_)
        ·
          have h14 : (1 : Int32) ≤ i := h14
          refine mE_ico 49 (-1) rfl rfl rfl ?_
          exact mE_iret rfl ⟨rfl, _, rfl, rfl, Nat.le_of_ble_eq_true rfl, Nat.le_of_ble_eq_true rfl⟩
        ·
          have h14 : ¬ ((1 : Int32) ≤ i) := h14
          exfalso
          simp only [Int32.not_le, Int32.not_lt, Int32.le_iff_toInt_le, Int32.lt_iff_toInt_lt, mi_m1, mi_0, mi_1, mi_2, mi_4, mi_7, mi_9, mi_19, mi_40, mi_60, mi_2000, mi_10000] at h0 h11 h12 h13 h14
          all_goals omega
    ·
      have h12 : ¬ ((0 : Int32) < i) := h12
      exfalso
      simp only [Int32.not_le, Int32.not_lt, Int32.le_iff_toInt_le, Int32.lt_iff_toInt_lt, mi_m1, mi_0, mi_1, mi_2, mi_4, mi_7, mi_9, mi_19, mi_40, mi_60, mi_2000, mi_10000] at h0 h11 h12
      all_goals omega

set_option maxHeartbeats 4000000 in
set_option maxRecDepth 100000 in
theorem b_text_2_lo (i : Int32) (h0 : i < (0 : Int32)) : mBoth 72 127 [.int 2, .int i] := by
  apply mBoth_of
  refine mR_ix [(0, .ref 0), (1, .int 2), (2, .int i)] rfl rfl rfl ?_
  refine mE_ildn 1 rfl rfl rfl rfl ?_
  refine mE_ico 2 0 rfl rfl rfl ?_
  refine mE_ico 3 2 rfl rfl rfl ?_
  refine mE_cs [.int 2, .int 0, .int 2] [] rfl rfl rfl rfl rfl ?_
  refine mR_ix [(0, .int 2), (1, .int 0), (2, .int 2)] rfl rfl rfl ?_
  refine mE_ildn 1 rfl rfl rfl rfl ?_
  refine mE_ildn 2 rfl rfl rfl rfl ?_
  refine mE_ic_lt_f 5 rfl (by decide) rfl ?_
  refine mE_ildn 6 rfl rfl rfl rfl ?_
  refine mE_ildn 7 rfl rfl rfl rfl ?_
  refine mE_ic_gt_f 10 rfl (by decide) rfl ?_
  refine mE_ico 11 1 rfl rfl rfl ?_
  refine mE_goto 15 rfl rfl ?_
  refine mE_iret rfl ⟨rfl, ?_⟩
  refine mE_if_eq_f 9 rfl (by decide) rfl ?_
  refine mE_ildn 10 rfl rfl rfl rfl ?_
  refine mE_ico 11 0 rfl rfl rfl ?_
  refine mE_aldn 12 rfl rfl rfl rfl ?_
  refine mE_gf 15 rfl rfl mh_0 rfl rfl ?_
  refine mE_ildn 16 rfl rfl rfl rfl ?_
  refine mE_qla 17 rfl mh_5 rfl (by decide) rfl rfl ?_
  refine mE_gf 20 rfl rfl mh_40 rfl rfl ?_
  refine mE_gf 23 rfl rfl mh_37 rfl rfl ?_
  refine mE_ico 24 1 rfl rfl rfl ?_
  refine mE_isub 25 0 rfl rfl rfl ?_
  refine mE_cs [.int i, .int 0, .int 0] [] rfl rfl rfl rfl rfl ?_
  refine mR_ix [(0, .int i), (1, .int 0), (2, .int 0)] rfl rfl rfl ?_
  refine mE_ildn 1 rfl rfl rfl rfl ?_
  refine mE_ildn 2 rfl rfl rfl rfl ?_
  refine mE_ic_lt rfl (fun h11 => ?_) (fun h11 => ?_)
  ·
    have h11 : i < (0 : Int32) := h11
    refine mE_ico 15 0 rfl rfl rfl ?_
    refine mE_iret rfl ⟨rfl, ?_⟩
    refine mE_if_ne_f 31 rfl (by decide) rfl ?_
    refine mE_ico 32 (-1) rfl rfl rfl ?_
    refine mE_iret rfl ⟨rfl, ⟨_, mh_47⟩, ?_⟩
    refine mR_ix [(0, .ref 47), (1, .int 2), (2, .int i)] rfl rfl rfl ?_
    refine mE_ildn 1 rfl rfl rfl rfl ?_
    refine mE_ico 2 0 rfl rfl rfl ?_
    refine mE_ico 3 2 rfl rfl rfl ?_
    refine mE_cs [.int 2, .int 0, .int 2] [] rfl rfl rfl rfl rfl ?_
    refine mR_ix [(0, .int 2), (1, .int 0), (2, .int 2)] rfl rfl rfl ?_
    refine mE_ildn 1 rfl rfl rfl rfl ?_
    refine mE_ildn 2 rfl rfl rfl rfl ?_
    refine mE_ic_lt_f 5 rfl (by decide) rfl ?_
    refine mE_ildn 6 rfl rfl rfl rfl ?_
    refine mE_ildn 7 rfl rfl rfl rfl ?_
    refine mE_ic_gt_f 10 rfl (by decide) rfl ?_
    refine mE_ico 11 1 rfl rfl rfl ?_
    refine mE_goto 15 rfl rfl ?_
    refine mE_iret rfl ⟨rfl, ?_⟩
    refine mE_if_ne_t 11 rfl (by decide) rfl ?_
    refine mE_aldn 12 rfl rfl rfl rfl ?_
    refine mE_ildn 13 rfl rfl rfl rfl ?_
    refine mE_cv [.int 2] [] rfl rfl rfl rfl mh_47 rfl ?_
    refine mR_ix [(0, .ref 47), (1, .int 2)] rfl rfl rfl ?_
    refine mE_aldn 1 rfl rfl rfl rfl ?_
    refine mE_gf 4 rfl rfl mh_47 rfl rfl ?_
    refine mE_ico 5 2 rfl rfl rfl ?_
    refine mE_ildn 6 rfl rfl rfl rfl ?_
    refine mE_imul 7 4 rfl rfl rfl ?_
    refine mE_ico 8 1 rfl rfl rfl ?_
    refine mE_iadd 9 5 rfl rfl rfl ?_
    refine mE_ila 10 rfl mh_69 (by decide) rfl rfl ?_
    refine mE_if_le_t 103 rfl (by decide) rfl ?_
    refine mE_vret rfl ⟨rfl, ?_⟩
    refine mE_ildn 17 rfl rfl rfl rfl ?_
    refine mE_if_lt rfl (fun h12 => ?_) (fun h12 => ?_)
    ·
      have h12 : i < (0 : Int32) := h12
      refine mE_ico 49 (-1) rfl rfl rfl ?_
      exact mE_iret rfl ⟨rfl, _, rfl, rfl, Nat.le_of_ble_eq_true rfl, Nat.le_of_ble_eq_true rfl⟩
    ·
      have h12 : ¬ (i < (0 : Int32)) := h12
      exfalso
      simp only [Int32.not_le, Int32.not_lt, Int32.le_iff_toInt_le, Int32.lt_iff_toInt_lt, mi_m1, mi_0, mi_1, mi_2, mi_4, mi_7, mi_9, mi_19, mi_40, mi_60, mi_2000, mi_10000] at h0 h11 h12
      all_goals omega
  ·
    have h11 : ¬ (i < (0 : Int32)) := h11
    exfalso
    simp only [Int32.not_le, Int32.not_lt, Int32.le_iff_toInt_le, Int32.lt_iff_toInt_lt, mi_m1, mi_0, mi_1, mi_2, mi_4, mi_7, mi_9, mi_19, mi_40, mi_60, mi_2000, mi_10000] at h0 h11
    all_goals omega

set_option maxHeartbeats 4000000 in
set_option maxRecDepth 100000 in
theorem b_text_2_hi (i : Int32) (h0 : (0 : Int32) < i) : mBoth 72 127 [.int 2, .int i] := by
  apply mBoth_of
  refine mR_ix [(0, .ref 0), (1, .int 2), (2, .int i)] rfl rfl rfl ?_
  refine mE_ildn 1 rfl rfl rfl rfl ?_
  refine mE_ico 2 0 rfl rfl rfl ?_
  refine mE_ico 3 2 rfl rfl rfl ?_
  refine mE_cs [.int 2, .int 0, .int 2] [] rfl rfl rfl rfl rfl ?_
  refine mR_ix [(0, .int 2), (1, .int 0), (2, .int 2)] rfl rfl rfl ?_
  refine mE_ildn 1 rfl rfl rfl rfl ?_
  refine mE_ildn 2 rfl rfl rfl rfl ?_
  refine mE_ic_lt_f 5 rfl (by decide) rfl ?_
  refine mE_ildn 6 rfl rfl rfl rfl ?_
  refine mE_ildn 7 rfl rfl rfl rfl ?_
  refine mE_ic_gt_f 10 rfl (by decide) rfl ?_
  refine mE_ico 11 1 rfl rfl rfl ?_
  refine mE_goto 15 rfl rfl ?_
  refine mE_iret rfl ⟨rfl, ?_⟩
  refine mE_if_eq_f 9 rfl (by decide) rfl ?_
  refine mE_ildn 10 rfl rfl rfl rfl ?_
  refine mE_ico 11 0 rfl rfl rfl ?_
  refine mE_aldn 12 rfl rfl rfl rfl ?_
  refine mE_gf 15 rfl rfl mh_0 rfl rfl ?_
  refine mE_ildn 16 rfl rfl rfl rfl ?_
  refine mE_qla 17 rfl mh_5 rfl (by decide) rfl rfl ?_
  refine mE_gf 20 rfl rfl mh_40 rfl rfl ?_
  refine mE_gf 23 rfl rfl mh_37 rfl rfl ?_
  refine mE_ico 24 1 rfl rfl rfl ?_
  refine mE_isub 25 0 rfl rfl rfl ?_
  refine mE_cs [.int i, .int 0, .int 0] [] rfl rfl rfl rfl rfl ?_
  refine mR_ix [(0, .int i), (1, .int 0), (2, .int 0)] rfl rfl rfl ?_
  refine mE_ildn 1 rfl rfl rfl rfl ?_
  refine mE_ildn 2 rfl rfl rfl rfl ?_
  refine mE_ic_lt rfl (fun h11 => ?_) (fun h11 => ?_)
  ·
    have h11 : i < (0 : Int32) := h11
    exfalso
    simp only [Int32.not_le, Int32.not_lt, Int32.le_iff_toInt_le, Int32.lt_iff_toInt_lt, mi_m1, mi_0, mi_1, mi_2, mi_4, mi_7, mi_9, mi_19, mi_40, mi_60, mi_2000, mi_10000] at h0 h11
    all_goals omega
  ·
    have h11 : ¬ (i < (0 : Int32)) := h11
    refine mE_ildn 6 rfl rfl rfl rfl ?_
    refine mE_ildn 7 rfl rfl rfl rfl ?_
    refine mE_ic_gt rfl (fun h12 => ?_) (fun h12 => ?_)
    ·
      have h12 : (0 : Int32) < i := h12
      refine mE_ico 15 0 rfl rfl rfl ?_
      refine mE_iret rfl ⟨rfl, ?_⟩
      refine mE_if_ne_f 31 rfl (by decide) rfl ?_
      refine mE_ico 32 (-1) rfl rfl rfl ?_
      refine mE_iret rfl ⟨rfl, ⟨_, mh_47⟩, ?_⟩
      refine mR_ix [(0, .ref 47), (1, .int 2), (2, .int i)] rfl rfl rfl ?_
      refine mE_ildn 1 rfl rfl rfl rfl ?_
      refine mE_ico 2 0 rfl rfl rfl ?_
      refine mE_ico 3 2 rfl rfl rfl ?_
      refine mE_cs [.int 2, .int 0, .int 2] [] rfl rfl rfl rfl rfl ?_
      refine mR_ix [(0, .int 2), (1, .int 0), (2, .int 2)] rfl rfl rfl ?_
      refine mE_ildn 1 rfl rfl rfl rfl ?_
      refine mE_ildn 2 rfl rfl rfl rfl ?_
      refine mE_ic_lt_f 5 rfl (by decide) rfl ?_
      refine mE_ildn 6 rfl rfl rfl rfl ?_
      refine mE_ildn 7 rfl rfl rfl rfl ?_
      refine mE_ic_gt_f 10 rfl (by decide) rfl ?_
      refine mE_ico 11 1 rfl rfl rfl ?_
      refine mE_goto 15 rfl rfl ?_
      refine mE_iret rfl ⟨rfl, ?_⟩
      refine mE_if_ne_t 11 rfl (by decide) rfl ?_
      refine mE_aldn 12 rfl rfl rfl rfl ?_
      refine mE_ildn 13 rfl rfl rfl rfl ?_
      refine mE_cv [.int 2] [] rfl rfl rfl rfl mh_47 rfl ?_
      refine mR_ix [(0, .ref 47), (1, .int 2)] rfl rfl rfl ?_
      refine mE_aldn 1 rfl rfl rfl rfl ?_
      refine mE_gf 4 rfl rfl mh_47 rfl rfl ?_
      refine mE_ico 5 2 rfl rfl rfl ?_
      refine mE_ildn 6 rfl rfl rfl rfl ?_
      refine mE_imul 7 4 rfl rfl rfl ?_
      refine mE_ico 8 1 rfl rfl rfl ?_
      refine mE_iadd 9 5 rfl rfl rfl ?_
      refine mE_ila 10 rfl mh_69 (by decide) rfl rfl ?_
      refine mE_if_le_t 103 rfl (by decide) rfl ?_
      refine mE_vret rfl ⟨rfl, ?_⟩
      refine mE_ildn 17 rfl rfl rfl rfl ?_
      refine mE_if_lt rfl (fun h13 => ?_) (fun h13 => ?_)
      ·
        have h13 : i < (0 : Int32) := h13
        exfalso
        simp only [Int32.not_le, Int32.not_lt, Int32.le_iff_toInt_le, Int32.lt_iff_toInt_lt, mi_m1, mi_0, mi_1, mi_2, mi_4, mi_7, mi_9, mi_19, mi_40, mi_60, mi_2000, mi_10000] at h0 h11 h12 h13
        all_goals omega
      ·
        have h13 : ¬ (i < (0 : Int32)) := h13
        refine mE_ildn 21 rfl rfl rfl rfl ?_
        refine mE_aldn 22 rfl rfl rfl rfl ?_
        refine mE_gf 25 rfl rfl mh_47 rfl rfl ?_
        refine mE_ico 26 2 rfl rfl rfl ?_
        refine mE_ildn 27 rfl rfl rfl rfl ?_
        refine mE_imul 28 4 rfl rfl rfl ?_
        refine mE_ila 29 rfl mh_69 (by decide) rfl rfl ?_
        refine mE_ic_ge rfl (fun h14 => ?_) (fun h14 => ?_)
        ·
          have h14 : (1 : Int32) ≤ i := h14
          refine mE_ico 49 (-1) rfl rfl rfl ?_
          exact mE_iret rfl ⟨rfl, _, rfl, rfl, Nat.le_of_ble_eq_true rfl, Nat.le_of_ble_eq_true rfl⟩
        ·
          have h14 : ¬ ((1 : Int32) ≤ i) := h14
          exfalso
          simp only [Int32.not_le, Int32.not_lt, Int32.le_iff_toInt_le, Int32.lt_iff_toInt_lt, mi_m1, mi_0, mi_1, mi_2, mi_4, mi_7, mi_9, mi_19, mi_40, mi_60, mi_2000, mi_10000] at h0 h11 h12 h13 h14
          all_goals omega
    ·
      have h12 : ¬ ((0 : Int32) < i) := h12
      exfalso
      simp only [Int32.not_le, Int32.not_lt, Int32.le_iff_toInt_le, Int32.lt_iff_toInt_lt, mi_m1, mi_0, mi_1, mi_2, mi_4, mi_7, mi_9, mi_19, mi_40, mi_60, mi_2000, mi_10000] at h0 h11 h12
      all_goals omega
