theorem mg_eq {l : List mC} {a : Nat} {e e0 : mC} (h : l[a]? = some e0) : (l.set a e)[a]? = some e := List.getElem?_set_self (List.getElem?_eq_some_iff.mp h).1
theorem mg_ne {l : List mC} {a b : Nat} {e e0 : mC} (hn : Nat.beq a b = false) (h : l[b]? = some e0) : (l.set a e)[b]? = some e0 := by
  rw [List.getElem?_set_ne (Nat.ne_of_beq_eq_false hn)]; exact h
theorem mg_app {l : List mC} {b : Nat} {e e0 : mC} (h : l[b]? = some e0) : (l ++ [e])[b]? = some e0 := by
  rw [List.getElem?_append_left (List.getElem?_eq_some_iff.mp h).1]; exact h
theorem mg_new {l : List mC} {a : Nat} {e : mC} (h : l.length = a) : (l ++ [e])[a]? = some e := by
  subst h; simp
theorem mh_0 : mh0.1[0]? = some (.inr (10, [.ref 1, .ref 2, .ref 3, .ref 4, .ref 5, .ref 6, .ref 8, .ref 13, .ref 16, .ref 18, .int 0, .int 0, .int 0, .int 0, .int 3, .int 0, .int 0])) := rfl
theorem mh_1 : mh0.1[1]? = some (.inl (2, .inr (List.replicate 12 none))) := rfl
theorem mh_2 : mh0.1[2]? = some (.inl (3, .inr (List.replicate 60 none))) := rfl
theorem mh_3 : mh0.1[3]? = some (.inl (4, .inr [some 23, some 24, some 25])) := rfl
theorem mh_4 : mh0.1[4]? = some (.inl (0, .inl (List.replicate 20 5))) := rfl
theorem mh_5 : mh0.1[5]? = some (.inl (5, .inr [some 26, some 33, some 40])) := rfl
theorem mh_6 : mh0.1[6]? = some (.inr (8, [.ref 7, .int 0])) := rfl
theorem mh_7 : mh0.1[7]? = some (.inl (0, .inl (49 ::  List.replicate 59 0))) := rfl
theorem mh_8 : mh0.1[8]? = some (.inr (5, [.ref 9, .int 0, .int 0, .int 1, .int 0, .int 0, .int 1, .ref 44])) := rfl
theorem mh_9 : mh0.1[9]? = some (.inl (0, .inl (List.replicate 60 0))) := rfl
theorem mh_10 : mh0.1[10]? = some (.inr (9, [.ref 11, .ref 12, .int 1, .int 1])) := rfl
theorem mh_11 : mh0.1[11]? = some (.inl (0, .inl (115 ::  List.replicate 59 0))) := rfl
theorem mh_12 : mh0.1[12]? = some (.inl (0, .inl (1003 ::  List.replicate 59 0))) := rfl
theorem mh_13 : mh0.1[13]? = some (.inr (6, [.ref 14, .ref 15])) := rfl
theorem mh_14 : mh0.1[14]? = some (.inl (0, .inl (List.replicate 10 0))) := rfl
theorem mh_15 : mh0.1[15]? = some (.inl (0, .inl (List.replicate 60 0))) := rfl
theorem mh_16 : mh0.1[16]? = some (.inr (0, [.ref 17, .int 0])) := rfl
theorem mh_17 : mh0.1[17]? = some (.inl (0, .inl (List.replicate 800 0))) := rfl
theorem mh_18 : mh0.1[18]? = some (.inr (2, [.ref 19, .ref 20, .ref 21, .ref 22, .int 0, .int 0, .int 0, .int 0])) := rfl
theorem mh_19 : mh0.1[19]? = some (.inl (2, .inr (List.replicate 8 none))) := rfl
theorem mh_20 : mh0.1[20]? = some (.inl (0, .inl [0, 0, 0, 0, 0, 0, 0, 0])) := rfl
theorem mh_21 : mh0.1[21]? = some (.inl (0, .inl [0, 0, 0, 0, 0, 0, 0, 0])) := rfl
theorem mh_22 : mh0.1[22]? = some (.inl (0, .inl [0, 0, 0, 0, 0, 0, 0, 0])) := rfl
theorem mh_23 : mh0.1[23]? = some (.inr (3, [.null, .int 0])) := rfl
theorem mh_24 : mh0.1[24]? = some (.inr (3, [.null, .int 0])) := rfl
theorem mh_25 : mh0.1[25]? = some (.inr (3, [.null, .int 0])) := rfl
theorem mh_26 : mh0.1[26]? = some (.inr (1, [.ref 10, .ref 27, .int 0, .int 0])) := rfl
theorem mh_27 : mh0.1[27]? = some (.inr (9, [.ref 28, .ref 29, .int 0, .int 0])) := rfl
theorem mh_28 : mh0.1[28]? = some (.inl (0, .inl (List.replicate 60 0))) := rfl
theorem mh_29 : mh0.1[29]? = some (.inl (0, .inl (List.replicate 60 0))) := rfl
theorem mh_30 : mh0.1[30]? = some (.inr (9, [.ref 31, .ref 32, .int 1, .int 1])) := rfl
theorem mh_31 : mh0.1[31]? = some (.inl (0, .inl (57 ::  List.replicate 59 0))) := rfl
theorem mh_32 : mh0.1[32]? = some (.inl (0, .inl (9 ::  List.replicate 59 0))) := rfl
theorem mh_33 : mh0.1[33]? = some (.inr (1, [.ref 30, .ref 34, .int 0, .int 0])) := rfl
theorem mh_34 : mh0.1[34]? = some (.inr (9, [.ref 35, .ref 36, .int 0, .int 0])) := rfl
theorem mh_35 : mh0.1[35]? = some (.inl (0, .inl (List.replicate 60 0))) := rfl
theorem mh_36 : mh0.1[36]? = some (.inl (0, .inl (List.replicate 60 0))) := rfl
theorem mh_37 : mh0.1[37]? = some (.inr (9, [.ref 38, .ref 39, .int 1, .int 1])) := rfl
theorem mh_38 : mh0.1[38]? = some (.inl (0, .inl (49 ::  List.replicate 59 0))) := rfl
theorem mh_39 : mh0.1[39]? = some (.inl (0, .inl (1 ::  List.replicate 59 0))) := rfl
theorem mh_40 : mh0.1[40]? = some (.inr (1, [.ref 37, .ref 41, .int 0, .int 0])) := rfl
theorem mh_41 : mh0.1[41]? = some (.inr (9, [.ref 42, .ref 43, .int 0, .int 0])) := rfl
theorem mh_42 : mh0.1[42]? = some (.inl (0, .inl (List.replicate 60 0))) := rfl
theorem mh_43 : mh0.1[43]? = some (.inl (0, .inl (List.replicate 60 0))) := rfl
theorem mh_44 : mh0.1[44]? = some (.inr (9, [.ref 45, .ref 46, .int 0, .int 0])) := rfl
theorem mh_45 : mh0.1[45]? = some (.inl (0, .inl (List.replicate 60 0))) := rfl
theorem mh_46 : mh0.1[46]? = some (.inl (0, .inl (List.replicate 60 0))) := rfl
theorem mh_47 : mh0.1[47]? = some (.inr (11, [.int 0, .ref 48, .ref 49, .ref 50, .ref 51, .ref 52, .ref 53, .ref 54, .ref 55, .int 0, .ref 56, .ref 57, .ref 58, .ref 59, .ref 60, .ref 61, .ref 62, .ref 63, .ref 64, .ref 65, .ref 66, .int 0, .int 0, .ref 67, .int 0, .ref 68, .ref 69, .ref 70, .int 0, .int 0, .int 0, .int 0, .int 0, .ref 71, .ref 72, .ref 73, .ref 74, .ref 75, .int 0, .int 3, .ref 76, .ref 77, .int 0])) := rfl
theorem mh_48 : mh0.1[48]? = some (.inl (0, .inl (List.replicate 20 5))) := rfl
theorem mh_49 : mh0.1[49]? = some (.inl (0, .inl (List.replicate 12 0))) := rfl
theorem mh_50 : mh0.1[50]? = some (.inl (0, .inl (List.replicate 12 0))) := rfl
theorem mh_51 : mh0.1[51]? = some (.inl (0, .inl (List.replicate 12 0))) := rfl
theorem mh_52 : mh0.1[52]? = some (.inl (0, .inl (List.replicate 12 0))) := rfl
theorem mh_53 : mh0.1[53]? = some (.inl (0, .inl (List.replicate 12 0))) := rfl
theorem mh_54 : mh0.1[54]? = some (.inl (0, .inl (List.replicate 12 0))) := rfl
theorem mh_55 : mh0.1[55]? = some (.inl (0, .inl (List.replicate 12 0))) := rfl
theorem mh_56 : mh0.1[56]? = some (.inl (0, .inl (List.replicate 60 0))) := rfl
theorem mh_57 : mh0.1[57]? = some (.inl (0, .inl (List.replicate 60 0))) := rfl
theorem mh_58 : mh0.1[58]? = some (.inl (0, .inl (List.replicate 60 0))) := rfl
theorem mh_59 : mh0.1[59]? = some (.inl (0, .inl (List.replicate 60 0))) := rfl
theorem mh_60 : mh0.1[60]? = some (.inl (0, .inl (List.replicate 60 0))) := rfl
theorem mh_61 : mh0.1[61]? = some (.inl (0, .inl (List.replicate 60 0))) := rfl
theorem mh_62 : mh0.1[62]? = some (.inl (1, .inl (List.replicate 60 0))) := rfl
theorem mh_63 : mh0.1[63]? = some (.inl (0, .inl (List.replicate 60 0))) := rfl
theorem mh_64 : mh0.1[64]? = some (.inl (0, .inl (List.replicate 60 0))) := rfl
theorem mh_65 : mh0.1[65]? = some (.inl (0, .inl (List.replicate 60 0))) := rfl
theorem mh_66 : mh0.1[66]? = some (.inl (0, .inl (List.replicate 60 0))) := rfl
theorem mh_67 : mh0.1[67]? = some (.inl (0, .inl (List.replicate 60 0))) := rfl
theorem mh_68 : mh0.1[68]? = some (.inl (0, .inl [115, 0, 0, 0, 0, 0, 0, 0, 0, 0, 0, 0, 0, 0, 0, 0, 0, 0, 0, 0, 0, 0, 0, 0, 0, 0, 0, 0, 0, 0, 0, 0, 0, 0, 0, 0, 0, 0, 0, 0, 0, 0, 0, 0, 0, 0, 0, 0, 0, 0, 0, 0, 0, 0, 0, 0, 0, 0, 0, 0, 0, 0, 0, 0, 0, 0, 0, 0, 0, 0, 0, 0, 0, 0, 0, 0, 0, 0, 0, 0, 0, 0, 0, 0, 0, 0, 0, 0, 0, 0, 0, 0, 0, 0, 0, 0, 0, 0, 0, 0, 0, 0, 0, 0, 0, 0, 0, 0, 0, 0, 0, 0, 0, 0, 0, 0, 0, 0, 0, 0, 57, 0, 0, 0, 0, 0, 0, 0, 0, 0, 0, 0, 0, 0, 0, 0, 0, 0, 0, 0, 0, 0, 0, 0, 0, 0, 0, 0, 0, 0, 0, 0, 0, 0, 0, 0, 0, 0, 0, 0, 0, 0, 0, 0, 0, 0, 0, 0, 0, 0, 0, 0, 0, 0, 0, 0, 0, 0, 0, 0, 0, 0, 0, 0, 0, 0, 0, 0, 0, 0, 0, 0, 0, 0, 0, 0, 0, 0, 0, 0, 0, 0, 0, 0, 0, 0, 0, 0, 0, 0, 0, 0, 0, 0, 0, 0, 0, 0, 0, 0, 0, 0, 0, 0, 0, 0, 0, 0, 0, 0, 0, 0, 0, 0, 0, 0, 0, 0, 0, 0, 49, 0, 0, 0, 0, 0, 0, 0, 0, 0, 0, 0, 0, 0, 0, 0, 0, 0, 0, 0, 0, 0, 0, 0, 0, 0, 0, 0, 0, 0, 0, 0, 0, 0, 0, 0, 0, 0, 0, 0, 0, 0, 0, 0, 0, 0, 0, 0, 0, 0, 0, 0, 0, 0, 0, 0, 0, 0, 0, 0, 0, 0, 0, 0, 0, 0, 0, 0, 0, 0, 0, 0, 0, 0, 0, 0, 0, 0, 0, 0, 0, 0, 0, 0, 0, 0, 0, 0, 0, 0, 0, 0, 0, 0, 0, 0, 0, 0, 0, 0, 0, 0, 0, 0, 0, 0, 0, 0, 0, 0, 0, 0, 0, 0, 0, 0, 0, 0, 0, 0])) := rfl
theorem mh_69 : mh0.1[69]? = some (.inl (0, .inl [1, 0, 1, 0, 1, 0])) := rfl
theorem mh_70 : mh0.1[70]? = some (.inl (0, .inl [0, 0, 0])) := rfl
theorem mh_71 : mh0.1[71]? = some (.inl (1, .inl (List.replicate 13 0))) := rfl
theorem mh_72 : mh0.1[72]? = some (.inl (0, .inl (List.replicate 200 0))) := rfl
theorem mh_73 : mh0.1[73]? = some (.inl (0, .inl (List.replicate 200 0))) := rfl
theorem mh_74 : mh0.1[74]? = some (.inl (0, .inl (List.replicate 200 0))) := rfl
theorem mh_75 : mh0.1[75]? = some (.inl (0, .inl (List.replicate 200 0))) := rfl
theorem mh_76 : mh0.1[76]? = some (.inl (0, .inl [0, 0, 0, 0, 0, 0, 0, 0])) := rfl
theorem mh_77 : mh0.1[77]? = some (.inl (0, .inl (List.replicate 12 0))) := rfl
theorem mi_m1 : (-1 : Int32).toInt = -1 := by decide
theorem mi_0 : (0 : Int32).toInt = 0 := by decide
theorem mi_1 : (1 : Int32).toInt = 1 := by decide
theorem mi_2 : (2 : Int32).toInt = 2 := by decide
theorem mi_4 : (4 : Int32).toInt = 4 := by decide
theorem mi_7 : (7 : Int32).toInt = 7 := by decide
theorem mi_9 : (9 : Int32).toInt = 9 := by decide
theorem mi_19 : (19 : Int32).toInt = 19 := by decide
theorem mi_40 : (40 : Int32).toInt = 40 := by decide
theorem mi_60 : (60 : Int32).toInt = 60 := by decide
theorem mi_2000 : (2000 : Int32).toInt = 2000 := by decide
theorem mi_10000 : (10000 : Int32).toInt = 10000 := by decide
set_option maxHeartbeats 4000000 in
set_option maxRecDepth 100000 in
theorem b_house (b n : Int32)  : mBoth 58 128 [.int b, .int n] := by
  apply mBoth_of
  refine mR_ix [(0, .ref 0), (1, .int b), (2, .int n)] rfl rfl rfl ?_
  refine mE_ildn 1 rfl rfl rfl rfl ?_
  refine mE_ico 2 0 rfl rfl rfl ?_
  refine mE_sip 5 10000 rfl rfl rfl ?_
  refine mE_cs [.int b, .int 0, .int 10000] [] rfl rfl rfl rfl rfl ?_
  refine mR_ix [(0, .int b), (1, .int 0), (2, .int 10000)] rfl rfl rfl ?_
  refine mE_ildn 1 rfl rfl rfl rfl ?_
  refine mE_ildn 2 rfl rfl rfl rfl ?_
  refine mE_ic_lt rfl (fun h11 => ?_) (fun h11 => ?_)
  ·
    have h11 : b < (0 : Int32) := h11
    refine mE_ico 15 0 rfl rfl rfl ?_
    refine mE_iret rfl ⟨rfl, ?_⟩
    refine mE_if_eq_t 21 rfl (by decide) rfl ?_
    refine mE_ico 22 (-1) rfl rfl rfl ?_
    refine mE_iret rfl ⟨rfl, ⟨_, mh_47⟩, ?_⟩
    refine mR_ix [(0, .ref 47), (1, .int b), (2, .int n)] rfl rfl rfl ?_
    refine mE_ildn 1 rfl rfl rfl rfl ?_
    refine mE_ico 2 0 rfl rfl rfl ?_
    refine mE_sip 5 10000 rfl rfl rfl ?_
    refine mE_cs [.int b, .int 0, .int 10000] [] rfl rfl rfl rfl rfl ?_
    refine mR_ix [(0, .int b), (1, .int 0), (2, .int 10000)] rfl rfl rfl ?_
    refine mE_ildn 1 rfl rfl rfl rfl ?_
    refine mE_ildn 2 rfl rfl rfl rfl ?_
    refine mE_ic_lt rfl (fun h12 => ?_) (fun h12 => ?_)
    ·
      have h12 : b < (0 : Int32) := h12
      refine mE_ico 15 0 rfl rfl rfl ?_
      refine mE_iret rfl ⟨rfl, ?_⟩
      refine mE_if_eq_t 21 rfl (by decide) rfl ?_
      refine mE_ico 22 (-1) rfl rfl rfl ?_
      exact mE_iret rfl ⟨rfl, _, rfl, rfl, Nat.le_of_ble_eq_true rfl, Nat.le_of_ble_eq_true rfl⟩
    ·
      have h12 : ¬ (b < (0 : Int32)) := h12
      exfalso
      simp only [Int32.not_le, Int32.not_lt, Int32.le_iff_toInt_le, Int32.lt_iff_toInt_lt, mi_m1, mi_0, mi_1, mi_2, mi_4, mi_7, mi_9, mi_19, mi_40, mi_60, mi_2000, mi_10000] at h11 h12
      all_goals omega
  ·
    have h11 : ¬ (b < (0 : Int32)) := h11
    refine mE_ildn 6 rfl rfl rfl rfl ?_
    refine mE_ildn 7 rfl rfl rfl rfl ?_
    refine mE_ic_gt rfl (fun h13 => ?_) (fun h13 => ?_)
    ·
      have h13 : (10000 : Int32) < b := h13
      refine mE_ico 15 0 rfl rfl rfl ?_
      refine mE_iret rfl ⟨rfl, ?_⟩
      refine mE_if_eq_t 21 rfl (by decide) rfl ?_
      refine mE_ico 22 (-1) rfl rfl rfl ?_
      refine mE_iret rfl ⟨rfl, ⟨_, mh_47⟩, ?_⟩
      refine mR_ix [(0, .ref 47), (1, .int b), (2, .int n)] rfl rfl rfl ?_
      refine mE_ildn 1 rfl rfl rfl rfl ?_
      refine mE_ico 2 0 rfl rfl rfl ?_
      refine mE_sip 5 10000 rfl rfl rfl ?_
      refine mE_cs [.int b, .int 0, .int 10000] [] rfl rfl rfl rfl rfl ?_
      refine mR_ix [(0, .int b), (1, .int 0), (2, .int 10000)] rfl rfl rfl ?_
      refine mE_ildn 1 rfl rfl rfl rfl ?_
      refine mE_ildn 2 rfl rfl rfl rfl ?_
      refine mE_ic_lt rfl (fun h14 => ?_) (fun h14 => ?_)
      ·
        have h14 : b < (0 : Int32) := h14
        exfalso
        simp only [Int32.not_le, Int32.not_lt, Int32.le_iff_toInt_le, Int32.lt_iff_toInt_lt, mi_m1, mi_0, mi_1, mi_2, mi_4, mi_7, mi_9, mi_19, mi_40, mi_60, mi_2000, mi_10000] at h11 h13 h14
        all_goals omega
      ·
        have h14 : ¬ (b < (0 : Int32)) := h14
        refine mE_ildn 6 rfl rfl rfl rfl ?_
        refine mE_ildn 7 rfl rfl rfl rfl ?_
        refine mE_ic_gt rfl (fun h15 => ?_) (fun h15 => ?_)
        ·
          have h15 : (10000 : Int32) < b := h15
          refine mE_ico 15 0 rfl rfl rfl ?_
          refine mE_iret rfl ⟨rfl, ?_⟩
          refine mE_if_eq_t 21 rfl (by decide) rfl ?_
          refine mE_ico 22 (-1) rfl rfl rfl ?_
          exact mE_iret rfl ⟨rfl, _, rfl, rfl, Nat.le_of_ble_eq_true rfl, Nat.le_of_ble_eq_true rfl⟩
        ·
          have h15 : ¬ ((10000 : Int32) < b) := h15
          exfalso
          simp only [Int32.not_le, Int32.not_lt, Int32.le_iff_toInt_le, Int32.lt_iff_toInt_lt, mi_m1, mi_0, mi_1, mi_2, mi_4, mi_7, mi_9, mi_19, mi_40, mi_60, mi_2000, mi_10000] at h11 h13 h14 h15
          all_goals omega
    ·
      have h13 : ¬ ((10000 : Int32) < b) := h13
      refine mE_ico 11 1 rfl rfl rfl ?_
      refine mE_goto 15 rfl rfl ?_
      refine mE_iret rfl ⟨rfl, ?_⟩
      refine mE_if_eq_f 11 rfl (by decide) rfl ?_
      refine mE_ildn 12 rfl rfl rfl rfl ?_
      refine mE_ico 13 0 rfl rfl rfl ?_
      refine mE_bip 15 9 rfl rfl rfl ?_
      refine mE_cs [.int n, .int 0, .int 9] [] rfl rfl rfl rfl rfl ?_
      refine mR_ix [(0, .int n), (1, .int 0), (2, .int 9)] rfl rfl rfl ?_
      refine mE_ildn 1 rfl rfl rfl rfl ?_
      refine mE_ildn 2 rfl rfl rfl rfl ?_
      refine mE_ic_lt rfl (fun h16 => ?_) (fun h16 => ?_)
      ·
        have h16 : n < (0 : Int32) := h16
        refine mE_ico 15 0 rfl rfl rfl ?_
        refine mE_iret rfl ⟨rfl, ?_⟩
        refine mE_if_ne_f 21 rfl (by decide) rfl ?_
        refine mE_ico 22 (-1) rfl rfl rfl ?_
        refine mE_iret rfl ⟨rfl, ⟨_, mh_47⟩, ?_⟩
        refine mR_ix [(0, .ref 47), (1, .int b), (2, .int n)] rfl rfl rfl ?_
        refine mE_ildn 1 rfl rfl rfl rfl ?_
        refine mE_ico 2 0 rfl rfl rfl ?_
        refine mE_sip 5 10000 rfl rfl rfl ?_
        refine mE_cs [.int b, .int 0, .int 10000] [] rfl rfl rfl rfl rfl ?_
        refine mR_ix [(0, .int b), (1, .int 0), (2, .int 10000)] rfl rfl rfl ?_
        refine mE_ildn 1 rfl rfl rfl rfl ?_
        refine mE_ildn 2 rfl rfl rfl rfl ?_
        refine mE_ic_lt rfl (fun h17 => ?_) (fun h17 => ?_)
        ·
          have h17 : b < (0 : Int32) := h17
          exfalso
          simp only [Int32.not_le, Int32.not_lt, Int32.le_iff_toInt_le, Int32.lt_iff_toInt_lt, mi_m1, mi_0, mi_1, mi_2, mi_4, mi_7, mi_9, mi_19, mi_40, mi_60, mi_2000, mi_10000] at h11 h13 h17
          all_goals omega
        ·
          have h17 : ¬ (b < (0 : Int32)) := h17
          refine mE_ildn 6 rfl rfl rfl rfl ?_
          refine mE_ildn 7 rfl rfl rfl rfl ?_
          refine mE_ic_gt rfl (fun h18 => ?_) (fun h18 => ?_)
          ·
            have h18 : (10000 : Int32) < b := h18
            exfalso
            simp only [Int32.not_le, Int32.not_lt, Int32.le_iff_toInt_le, Int32.lt_iff_toInt_lt, mi_m1, mi_0, mi_1, mi_2, mi_4, mi_7, mi_9, mi_19, mi_40, mi_60, mi_2000, mi_10000] at h11 h13 h17 h18
            all_goals omega
          ·
            have h18 : ¬ ((10000 : Int32) < b) := h18
            refine mE_ico 11 1 rfl rfl rfl ?_
            refine mE_goto 15 rfl rfl ?_
            refine mE_iret rfl ⟨rfl, ?_⟩
            refine mE_if_eq_f 11 rfl (by decide) rfl ?_
            refine mE_ildn 12 rfl rfl rfl rfl ?_
            refine mE_ico 13 0 rfl rfl rfl ?_
            refine mE_bip 15 9 rfl rfl rfl ?_
            refine mE_cs [.int n, .int 0, .int 9] [] rfl rfl rfl rfl rfl ?_
            refine mR_ix [(0, .int n), (1, .int 0), (2, .int 9)] rfl rfl rfl ?_
            refine mE_ildn 1 rfl rfl rfl rfl ?_
            refine mE_ildn 2 rfl rfl rfl rfl ?_
            refine mE_ic_lt rfl (fun h19 => ?_) (fun h19 => ?_)
            ·
              have h19 : n < (0 : Int32) := h19
              refine mE_ico 15 0 rfl rfl rfl ?_
              refine mE_iret rfl ⟨rfl, ?_⟩
              refine mE_if_ne_f 21 rfl (by decide) rfl ?_
              refine mE_ico 22 (-1) rfl rfl rfl ?_
              exact mE_iret rfl ⟨rfl, _, rfl, rfl, Nat.le_of_ble_eq_true rfl, Nat.le_of_ble_eq_true rfl⟩
            ·
              have h19 : ¬ (n < (0 : Int32)) := h19
              exfalso
              simp only [Int32.not_le, Int32.not_lt, Int32.le_iff_toInt_le, Int32.lt_iff_toInt_lt, mi_m1, mi_0, mi_1, mi_2, mi_4, mi_7, mi_9, mi_19, mi_40, mi_60, mi_2000, mi_10000] at h16 h19
              all_goals omega
      ·
        have h16 : ¬ (n < (0 : Int32)) := h16
        refine mE_ildn 6 rfl rfl rfl rfl ?_
        refine mE_ildn 7 rfl rfl rfl rfl ?_
        refine mE_ic_gt rfl (fun h20 => ?_) (fun h20 => ?_)
        ·
          have h20 : (9 : Int32) < n := h20
          refine mE_ico 15 0 rfl rfl rfl ?_
          refine mE_iret rfl ⟨rfl, ?_⟩
          refine mE_if_ne_f 21 rfl (by decide) rfl ?_
          refine mE_ico 22 (-1) rfl rfl rfl ?_
          refine mE_iret rfl ⟨rfl, ⟨_, mh_47⟩, ?_⟩
          refine mR_ix [(0, .ref 47), (1, .int b), (2, .int n)] rfl rfl rfl ?_
          refine mE_ildn 1 rfl rfl rfl rfl ?_
          refine mE_ico 2 0 rfl rfl rfl ?_
          refine mE_sip 5 10000 rfl rfl rfl ?_
          refine mE_cs [.int b, .int 0, .int 10000] [] rfl rfl rfl rfl rfl ?_
          refine mR_ix [(0, .int b), (1, .int 0), (2, .int 10000)] rfl rfl rfl ?_
          refine mE_ildn 1 rfl rfl rfl rfl ?_
          refine mE_ildn 2 rfl rfl rfl rfl ?_
          refine mE_ic_lt rfl (fun h21 => ?_) (fun h21 => ?_)
          ·
            have h21 : b < (0 : Int32) := h21
            exfalso
            simp only [Int32.not_le, Int32.not_lt, Int32.le_iff_toInt_le, Int32.lt_iff_toInt_lt, mi_m1, mi_0, mi_1, mi_2, mi_4, mi_7, mi_9, mi_19, mi_40, mi_60, mi_2000, mi_10000] at h11 h13 h21
            all_goals omega
          ·
            have h21 : ¬ (b < (0 : Int32)) := h21
            refine mE_ildn 6 rfl rfl rfl rfl ?_
            refine mE_ildn 7 rfl rfl rfl rfl ?_
            refine mE_ic_gt rfl (fun h22 => ?_) (fun h22 => ?_)
            ·
              have h22 : (10000 : Int32) < b := h22
              exfalso
              simp only [Int32.not_le, Int32.not_lt, Int32.le_iff_toInt_le, Int32.lt_iff_toInt_lt, mi_m1, mi_0, mi_1, mi_2, mi_4, mi_7, mi_9, mi_19, mi_40, mi_60, mi_2000, mi_10000] at h11 h13 h21 h22
              all_goals omega
            ·
              have h22 : ¬ ((10000 : Int32) < b) := h22
              refine mE_ico 11 1 rfl rfl rfl ?_
              refine mE_goto 15 rfl rfl ?_
              refine mE_iret rfl ⟨rfl, ?_⟩
              refine mE_if_eq_f 11 rfl (by decide) rfl ?_
              refine mE_ildn 12 rfl rfl rfl rfl ?_
              refine mE_ico 13 0 rfl rfl rfl ?_
              refine mE_bip 15 9 rfl rfl rfl ?_
              refine mE_cs [.int n, .int 0, .int 9] [] rfl rfl rfl rfl rfl ?_
              refine mR_ix [(0, .int n), (1, .int 0), (2, .int 9)] rfl rfl rfl ?_
              refine mE_ildn 1 rfl rfl rfl rfl ?_
              refine mE_ildn 2 rfl rfl rfl rfl ?_
              refine mE_ic_lt rfl (fun h23 => ?_) (fun h23 => ?_)
              ·
                have h23 : n < (0 : Int32) := h23
                exfalso
                simp only [Int32.not_le, Int32.not_lt, Int32.le_iff_toInt_le, Int32.lt_iff_toInt_lt, mi_m1, mi_0, mi_1, mi_2, mi_4, mi_7, mi_9, mi_19, mi_40, mi_60, mi_2000, mi_10000] at h16 h20 h23
                all_goals omega
              ·
                have h23 : ¬ (n < (0 : Int32)) := h23
                refine mE_ildn 6 rfl rfl rfl rfl ?_
                refine mE_ildn 7 rfl rfl rfl rfl ?_
                refine mE_ic_gt rfl (fun h24 => ?_) (fun h24 => ?_)
                ·
                  have h24 : (9 : Int32) < n := h24
                  refine mE_ico 15 0 rfl rfl rfl ?_
                  refine mE_iret rfl ⟨rfl, ?_⟩
                  refine mE_if_ne_f 21 rfl (by decide) rfl ?_
                  refine mE_ico 22 (-1) rfl rfl rfl ?_
                  exact mE_iret rfl ⟨rfl, _, rfl, rfl, Nat.le_of_ble_eq_true rfl, Nat.le_of_ble_eq_true rfl⟩
                ·
                  have h24 : ¬ ((9 : Int32) < n) := h24
                  exfalso
                  simp only [Int32.not_le, Int32.not_lt, Int32.le_iff_toInt_le, Int32.lt_iff_toInt_lt, mi_m1, mi_0, mi_1, mi_2, mi_4, mi_7, mi_9, mi_19, mi_40, mi_60, mi_2000, mi_10000] at h16 h20 h23 h24
                  all_goals omega
        ·
          have h20 : ¬ ((9 : Int32) < n) := h20
          refine mE_ico 11 1 rfl rfl rfl ?_
          refine mE_goto 15 rfl rfl ?_
          refine mE_iret rfl ⟨rfl, ?_⟩
          refine mE_if_ne_t 23 rfl (by decide) rfl ?_
          refine mE_aldn 24 rfl rfl rfl rfl ?_
          refine mE_gf 27 rfl rfl mh_0 rfl rfl ?_
          refine mE_bip 29 12 rfl rfl rfl ?_
          refine mE_ic_lt_t 35 rfl (by decide) rfl ?_
          refine mE_aldn 36 rfl rfl rfl rfl ?_
          refine mE_gf 39 rfl rfl mh_0 rfl rfl ?_
          refine mE_aldn 40 rfl rfl rfl rfl ?_
          refine mE_gf 43 rfl rfl mh_0 rfl rfl ?_
          refine mE_new 46 78 [.int 0, .int 0, .int 0, .int 0, .int 0, .int 0, .int 0, .int 0, .int 0, .int 0] 10 rfl rfl rfl rfl rfl ?_
          refine mE_dup 47 rfl rfl rfl ?_
          refine mE_aldn 48 rfl rfl rfl rfl ?_
          refine mE_gf 51 rfl rfl (mg_app mh_0) rfl rfl ?_
          refine mE_ildn 52 rfl rfl rfl rfl ?_
          refine mE_ildn 53 rfl rfl rfl rfl ?_
          refine mE_ci [.int 0, .int b, .int n] [.ref 78, .int 0, .ref 1] rfl rfl rfl rfl (mg_new rfl) rfl ?_
          refine mR_ix [(0, .ref 78), (1, .int 0), (2, .int b), (3, .int n)] rfl rfl rfl ?_
          refine mE_aldn 1 rfl rfl rfl rfl ?_
          refine mE_oi 4 rfl rfl rfl rfl ?_
          refine mE_aldn 5 rfl rfl rfl rfl ?_
          refine mE_ico 6 0 rfl rfl rfl ?_
          refine mE_pf 9 rfl (mg_new rfl) rfl rfl ?_
          refine mE_aldn 10 rfl rfl rfl rfl ?_
          refine mE_ico 11 0 rfl rfl rfl ?_
          refine mE_pf 14 rfl (mg_eq (mg_new rfl)) rfl rfl ?_
          refine mE_aldn 15 rfl rfl rfl rfl ?_
          refine mE_ico 16 0 rfl rfl rfl ?_
          refine mE_pf 19 rfl (mg_eq (mg_eq (mg_new rfl))) rfl rfl ?_
          refine mE_aldn 20 rfl rfl rfl rfl ?_
          refine mE_ico 21 0 rfl rfl rfl ?_
          refine mE_pf 24 rfl (mg_eq (mg_eq (mg_eq (mg_new rfl)))) rfl rfl ?_
          refine mE_aldn 25 rfl rfl rfl rfl ?_
          refine mE_ico 26 0 rfl rfl rfl ?_
          refine mE_pf 29 rfl (mg_eq (mg_eq (mg_eq (mg_eq (mg_new rfl))))) rfl rfl ?_
          refine mE_aldn 30 rfl rfl rfl rfl ?_
          refine mE_ico 31 0 rfl rfl rfl ?_
          refine mE_pf 34 rfl (mg_eq (mg_eq (mg_eq (mg_eq (mg_eq (mg_new rfl)))))) rfl rfl ?_
          refine mE_aldn 35 rfl rfl rfl rfl ?_
          refine mE_ico 36 0 rfl rfl rfl ?_
          refine mE_pf 39 rfl (mg_eq (mg_eq (mg_eq (mg_eq (mg_eq (mg_eq (mg_new rfl))))))) rfl rfl ?_
          refine mE_aldn 40 rfl rfl rfl rfl ?_
          refine mE_ildn 41 rfl rfl rfl rfl ?_
          refine mE_pf 44 rfl (mg_eq (mg_eq (mg_eq (mg_eq (mg_eq (mg_eq (mg_eq (mg_new rfl)))))))) rfl rfl ?_
          refine mE_aldn 45 rfl rfl rfl rfl ?_
          refine mE_ildn 46 rfl rfl rfl rfl ?_
          refine mE_pf 49 rfl (mg_eq (mg_eq (mg_eq (mg_eq (mg_eq (mg_eq (mg_eq (mg_eq (mg_new rfl))))))))) rfl rfl ?_
          refine mE_aldn 50 rfl rfl rfl rfl ?_
          refine mE_ildn 51 rfl rfl rfl rfl ?_
          refine mE_pf 54 rfl (mg_eq (mg_eq (mg_eq (mg_eq (mg_eq (mg_eq (mg_eq (mg_eq (mg_eq (mg_new rfl)))))))))) rfl rfl ?_
          refine mE_vret rfl ⟨rfl, ?_⟩
          refine mE_qsa 57 0 rfl (mg_ne rfl (mg_ne rfl (mg_ne rfl (mg_ne rfl (mg_ne rfl (mg_ne rfl (mg_ne rfl (mg_ne rfl (mg_ne rfl (mg_ne rfl (mg_app mh_1))))))))))) (mg_eq (mg_eq (mg_eq (mg_eq (mg_eq (mg_eq (mg_eq (mg_eq (mg_eq (mg_eq (mg_new rfl))))))))))) rfl rfl (show ¬ ((0 : Int32) < 0 ∨ 12 ≤ 0) by decide) rfl ?_
          refine mE_aldn 58 rfl rfl rfl rfl ?_
          refine mE_dup 59 rfl rfl rfl ?_
          refine mE_gf 62 rfl rfl (mg_ne rfl (mg_ne rfl (mg_ne rfl (mg_ne rfl (mg_ne rfl (mg_ne rfl (mg_ne rfl (mg_ne rfl (mg_ne rfl (mg_ne rfl (mg_ne rfl (mg_app mh_0)))))))))))) rfl rfl ?_
          refine mE_ico 63 1 rfl rfl rfl ?_
          refine mE_iadd 64 1 rfl rfl rfl ?_
          refine mE_pf 67 rfl (mg_ne rfl (mg_ne rfl (mg_ne rfl (mg_ne rfl (mg_ne rfl (mg_ne rfl (mg_ne rfl (mg_ne rfl (mg_ne rfl (mg_ne rfl (mg_ne rfl (mg_app mh_0)))))))))))) rfl rfl ?_
          refine mE_aldn 68 rfl rfl rfl rfl ?_
          refine mE_gf 71 rfl rfl (mg_eq (mg_ne rfl (mg_ne rfl (mg_ne rfl (mg_ne rfl (mg_ne rfl (mg_ne rfl (mg_ne rfl (mg_ne rfl (mg_ne rfl (mg_ne rfl (mg_ne rfl (mg_app mh_0))))))))))))) rfl rfl ?_
          refine mE_ico 72 1 rfl rfl rfl ?_
          refine mE_isub 73 0 rfl rfl rfl ?_
          refine mE_iret rfl ⟨rfl, ⟨_, (mg_ne rfl (mg_ne rfl (mg_ne rfl (mg_ne rfl (mg_ne rfl (mg_ne rfl (mg_ne rfl (mg_ne rfl (mg_ne rfl (mg_ne rfl (mg_ne rfl (mg_ne rfl (mg_app mh_47)))))))))))))⟩, ?_⟩
          refine mR_ix [(0, .ref 47), (1, .int b), (2, .int n)] rfl rfl rfl ?_
          refine mE_ildn 1 rfl rfl rfl rfl ?_
          refine mE_ico 2 0 rfl rfl rfl ?_
          refine mE_sip 5 10000 rfl rfl rfl ?_
          refine mE_cs [.int b, .int 0, .int 10000] [] rfl rfl rfl rfl rfl ?_
          refine mR_ix [(0, .int b), (1, .int 0), (2, .int 10000)] rfl rfl rfl ?_
          refine mE_ildn 1 rfl rfl rfl rfl ?_
          refine mE_ildn 2 rfl rfl rfl rfl ?_
          refine mE_ic_lt rfl (fun h25 => ?_) (fun h25 => ?_)
          ·
            have h25 : b < (0 : Int32) := h25
            exfalso
            simp only [Int32.not_le, Int32.not_lt, Int32.le_iff_toInt_le, Int32.lt_iff_toInt_lt, mi_m1, mi_0, mi_1, mi_2, mi_4, mi_7, mi_9, mi_19, mi_40, mi_60, mi_2000, mi_10000] at h11 h13 h25
            all_goals omega
          ·
            have h25 : ¬ (b < (0 : Int32)) := h25
            refine mE_ildn 6 rfl rfl rfl rfl ?_
            refine mE_ildn 7 rfl rfl rfl rfl ?_
            refine mE_ic_gt rfl (fun h26 => ?_) (fun h26 => ?_)
            ·
              have h26 : (10000 : Int32) < b := h26
              exfalso
              simp only [Int32.not_le, Int32.not_lt, Int32.le_iff_toInt_le, Int32.lt_iff_toInt_lt, mi_m1, mi_0, mi_1, mi_2, mi_4, mi_7, mi_9, mi_19, mi_40, mi_60, mi_2000, mi_10000] at h11 h13 h25 h26
              all_goals omega
            ·
              have h26 : ¬ ((10000 : Int32) < b) := h26
              refine mE_ico 11 1 rfl rfl rfl ?_
              refine mE_goto 15 rfl rfl ?_
              refine mE_iret rfl ⟨rfl, ?_⟩
              refine mE_if_eq_f 11 rfl (by decide) rfl ?_
              refine mE_ildn 12 rfl rfl rfl rfl ?_
              refine mE_ico 13 0 rfl rfl rfl ?_
              refine mE_bip 15 9 rfl rfl rfl ?_
              refine mE_cs [.int n, .int 0, .int 9] [] rfl rfl rfl rfl rfl ?_
              refine mR_ix [(0, .int n), (1, .int 0), (2, .int 9)] rfl rfl rfl ?_
              refine mE_ildn 1 rfl rfl rfl rfl ?_
              refine mE_ildn 2 rfl rfl rfl rfl ?_
              refine mE_ic_lt rfl (fun h27 => ?_) (fun h27 => ?_)
              ·
                have h27 : n < (0 : Int32) := h27
                exfalso
                simp only [Int32.not_le, Int32.not_lt, Int32.le_iff_toInt_le, Int32.lt_iff_toInt_lt, mi_m1, mi_0, mi_1, mi_2, mi_4, mi_7, mi_9, mi_19, mi_40, mi_60, mi_2000, mi_10000] at h16 h20 h27
                all_goals omega
              ·
                have h27 : ¬ (n < (0 : Int32)) := h27
                refine mE_ildn 6 rfl rfl rfl rfl ?_
                refine mE_ildn 7 rfl rfl rfl rfl ?_
                refine mE_ic_gt rfl (fun h28 => ?_) (fun h28 => ?_)
                ·
                  have h28 : (9 : Int32) < n := h28
                  exfalso
                  simp only [Int32.not_le, Int32.not_lt, Int32.le_iff_toInt_le, Int32.lt_iff_toInt_lt, mi_m1, mi_0, mi_1, mi_2, mi_4, mi_7, mi_9, mi_19, mi_40, mi_60, mi_2000, mi_10000] at h16 h20 h27 h28
                  all_goals omega
                ·
                  have h28 : ¬ ((9 : Int32) < n) := h28
                  refine mE_ico 11 1 rfl rfl rfl ?_
                  refine mE_goto 15 rfl rfl ?_
                  refine mE_iret rfl ⟨rfl, ?_⟩
                  refine mE_if_ne_t 23 rfl (by decide) rfl ?_
                  refine mE_aldn 24 rfl rfl rfl rfl ?_
                  refine mE_gf 27 rfl rfl (mg_ne rfl (mg_ne rfl (mg_ne rfl (mg_ne rfl (mg_ne rfl (mg_ne rfl (mg_ne rfl (mg_ne rfl (mg_ne rfl (mg_ne rfl (mg_ne rfl (mg_ne rfl (mg_app mh_47))))))))))))) rfl rfl ?_
                  refine mE_bip 29 12 rfl rfl rfl ?_
                  refine mE_ic_ne_t 35 rfl (by decide) rfl ?_
                  refine mE_aldn 36 rfl rfl rfl rfl ?_
                  refine mE_gf 39 rfl rfl (mg_ne rfl (mg_ne rfl (mg_ne rfl (mg_ne rfl (mg_ne rfl (mg_ne rfl (mg_ne rfl (mg_ne rfl (mg_ne rfl (mg_ne rfl (mg_ne rfl (mg_ne rfl (mg_app mh_47))))))))))))) rfl rfl ?_
                  refine mE_aldn 40 rfl rfl rfl rfl ?_
                  refine mE_gf 43 rfl rfl (mg_ne rfl (mg_ne rfl (mg_ne rfl (mg_ne rfl (mg_ne rfl (mg_ne rfl (mg_ne rfl (mg_ne rfl (mg_ne rfl (mg_ne rfl (mg_ne rfl (mg_ne rfl (mg_app mh_47))))))))))))) rfl rfl ?_
                  refine mE_ildn 44 rfl rfl rfl rfl ?_
                  refine mE_isa 45 0 rfl (mg_ne rfl (mg_ne rfl (mg_ne rfl (mg_ne rfl (mg_ne rfl (mg_ne rfl (mg_ne rfl (mg_ne rfl (mg_ne rfl (mg_ne rfl (mg_ne rfl (mg_ne rfl (mg_app mh_49))))))))))))) rfl (show ¬ ((0 : Int32) < 0 ∨ 12 ≤ 0) by decide) rfl ?_
                  refine mE_aldn 46 rfl rfl rfl rfl ?_
                  refine mE_gf 49 rfl rfl (mg_ne rfl (mg_ne rfl (mg_ne rfl (mg_ne rfl (mg_ne rfl (mg_ne rfl (mg_ne rfl (mg_ne rfl (mg_ne rfl (mg_ne rfl (mg_ne rfl (mg_ne rfl (mg_ne rfl (mg_app mh_47)))))))))))))) rfl rfl ?_
                  refine mE_aldn 50 rfl rfl rfl rfl ?_
                  refine mE_gf 53 rfl rfl (mg_ne rfl (mg_ne rfl (mg_ne rfl (mg_ne rfl (mg_ne rfl (mg_ne rfl (mg_ne rfl (mg_ne rfl (mg_ne rfl (mg_ne rfl (mg_ne rfl (mg_ne rfl (mg_ne rfl (mg_app mh_47)))))))))))))) rfl rfl ?_
                  refine mE_ildn 54 rfl rfl rfl rfl ?_
                  refine mE_isa 55 0 rfl (mg_ne rfl (mg_ne rfl (mg_ne rfl (mg_ne rfl (mg_ne rfl (mg_ne rfl (mg_ne rfl (mg_ne rfl (mg_ne rfl (mg_ne rfl (mg_ne rfl (mg_ne rfl (mg_ne rfl (mg_app mh_50)))))))))))))) rfl (show ¬ ((0 : Int32) < 0 ∨ 12 ≤ 0) by decide) rfl ?_
                  refine mE_aldn 56 rfl rfl rfl rfl ?_
                  refine mE_dup 57 rfl rfl rfl ?_
                  refine mE_gf 60 rfl rfl (mg_ne rfl (mg_ne rfl (mg_ne rfl (mg_ne rfl (mg_ne rfl (mg_ne rfl (mg_ne rfl (mg_ne rfl (mg_ne rfl (mg_ne rfl (mg_ne rfl (mg_ne rfl (mg_ne rfl (mg_ne rfl (mg_app mh_47))))))))))))))) rfl rfl ?_
                  refine mE_ico 61 1 rfl rfl rfl ?_
                  refine mE_iadd 62 1 rfl rfl rfl ?_
                  refine mE_pf 65 rfl (mg_ne rfl (mg_ne rfl (mg_ne rfl (mg_ne rfl (mg_ne rfl (mg_ne rfl (mg_ne rfl (mg_ne rfl (mg_ne rfl (mg_ne rfl (mg_ne rfl (mg_ne rfl (mg_ne rfl (mg_ne rfl (mg_app mh_47))))))))))))))) rfl rfl ?_
                  refine mE_aldn 66 rfl rfl rfl rfl ?_
                  refine mE_gf 69 rfl rfl (mg_eq (mg_ne rfl (mg_ne rfl (mg_ne rfl (mg_ne rfl (mg_ne rfl (mg_ne rfl (mg_ne rfl (mg_ne rfl (mg_ne rfl (mg_ne rfl (mg_ne rfl (mg_ne rfl (mg_ne rfl (mg_ne rfl (mg_app mh_47)))))))))))))))) rfl rfl ?_
                  refine mE_ico 70 1 rfl rfl rfl ?_
                  refine mE_isub 71 0 rfl rfl rfl ?_
                  exact mE_iret rfl ⟨rfl, _, rfl, rfl, by simp only [List.length_set, List.length_append]; exact Nat.le_of_ble_eq_true rfl, Nat.le_of_ble_eq_true rfl⟩

set_option maxHeartbeats 4000000 in
set_option maxRecDepth 100000 in
theorem b_strip (f e a : Int32)  : mBoth 59 129 [.int f, .int e, .int a] := by
  apply mBoth_of
  refine mR_ix [(0, .ref 0), (1, .int f), (2, .int e), (3, .int a)] rfl rfl rfl ?_
  refine mE_ildn 1 rfl rfl rfl rfl ?_
  refine mE_ico 2 0 rfl rfl rfl ?_
  refine mE_ico 3 2 rfl rfl rfl ?_
  refine mE_cs [.int f, .int 0, .int 2] [] rfl rfl rfl rfl rfl ?_
  refine mR_ix [(0, .int f), (1, .int 0), (2, .int 2)] rfl rfl rfl ?_
  refine mE_ildn 1 rfl rfl rfl rfl ?_
  refine mE_ildn 2 rfl rfl rfl rfl ?_
  refine mE_ic_lt rfl (fun h11 => ?_) (fun h11 => ?_)
  ·
    have h11 : f < (0 : Int32) := h11
    refine mE_ico 15 0 rfl rfl rfl ?_
    refine mE_iret rfl ⟨rfl, ?_⟩
    refine mE_if_eq_t 27 rfl (by decide) rfl ?_
    refine mE_ico 28 (-1) rfl rfl rfl ?_
    refine mE_iret rfl ⟨rfl, ⟨_, mh_47⟩, ?_⟩
    refine mR_ix [(0, .ref 47), (1, .int f), (2, .int e), (3, .int a)] rfl rfl rfl ?_
    refine mE_ildn 1 rfl rfl rfl rfl ?_
    refine mE_ico 2 0 rfl rfl rfl ?_
    refine mE_ico 3 2 rfl rfl rfl ?_
    refine mE_cs [.int f, .int 0, .int 2] [] rfl rfl rfl rfl rfl ?_
    refine mR_ix [(0, .int f), (1, .int 0), (2, .int 2)] rfl rfl rfl ?_
    refine mE_ildn 1 rfl rfl rfl rfl ?_
    refine mE_ildn 2 rfl rfl rfl rfl ?_
    refine mE_ic_lt rfl (fun h12 => ?_) (fun h12 => ?_)
    ·
      have h12 : f < (0 : Int32) := h12
      refine mE_ico 15 0 rfl rfl rfl ?_
      refine mE_iret rfl ⟨rfl, ?_⟩
      refine mE_if_eq_t 27 rfl (by decide) rfl ?_
      refine mE_ico 28 (-1) rfl rfl rfl ?_
      exact mE_iret rfl ⟨rfl, _, rfl, rfl, Nat.le_of_ble_eq_true rfl, Nat.le_of_ble_eq_true rfl⟩
    ·
      have h12 : ¬ (f < (0 : Int32)) := h12
      exfalso
      simp only [Int32.not_le, Int32.not_lt, Int32.le_iff_toInt_le, Int32.lt_iff_toInt_lt, mi_m1, mi_0, mi_1, mi_2, mi_4, mi_7, mi_9, mi_19, mi_40, mi_60, mi_2000, mi_10000] at h11 h12
      all_goals omega
  ·
    have h11 : ¬ (f < (0 : Int32)) := h11
    refine mE_ildn 6 rfl rfl rfl rfl ?_
    refine mE_ildn 7 rfl rfl rfl rfl ?_
    refine mE_ic_gt rfl (fun h13 => ?_) (fun h13 => ?_)
    ·
      have h13 : (2 : Int32) < f := h13
      refine mE_ico 15 0 rfl rfl rfl ?_
      refine mE_iret rfl ⟨rfl, ?_⟩
      refine mE_if_eq_t 27 rfl (by decide) rfl ?_
      refine mE_ico 28 (-1) rfl rfl rfl ?_
      refine mE_iret rfl ⟨rfl, ⟨_, mh_47⟩, ?_⟩
      refine mR_ix [(0, .ref 47), (1, .int f), (2, .int e), (3, .int a)] rfl rfl rfl ?_
      refine mE_ildn 1 rfl rfl rfl rfl ?_
      refine mE_ico 2 0 rfl rfl rfl ?_
      refine mE_ico 3 2 rfl rfl rfl ?_
      refine mE_cs [.int f, .int 0, .int 2] [] rfl rfl rfl rfl rfl ?_
      refine mR_ix [(0, .int f), (1, .int 0), (2, .int 2)] rfl rfl rfl ?_
      refine mE_ildn 1 rfl rfl rfl rfl ?_
      refine mE_ildn 2 rfl rfl rfl rfl ?_
      refine mE_ic_lt rfl (fun h14 => ?_) (fun h14 => ?_)
      ·
        have h14 : f < (0 : Int32) := h14
        exfalso
        simp only [Int32.not_le, Int32.not_lt, Int32.le_iff_toInt_le, Int32.lt_iff_toInt_lt, mi_m1, mi_0, mi_1, mi_2, mi_4, mi_7, mi_9, mi_19, mi_40, mi_60, mi_2000, mi_10000] at h11 h13 h14
        all_goals omega
      ·
        have h14 : ¬ (f < (0 : Int32)) := h14
        refine mE_ildn 6 rfl rfl rfl rfl ?_
        refine mE_ildn 7 rfl rfl rfl rfl ?_
        refine mE_ic_gt rfl (fun h15 => ?_) (fun h15 => ?_)
        ·
          have h15 : (2 : Int32) < f := h15
          refine mE_ico 15 0 rfl rfl rfl ?_
          refine mE_iret rfl ⟨rfl, ?_⟩
          refine mE_if_eq_t 27 rfl (by decide) rfl ?_
          refine mE_ico 28 (-1) rfl rfl rfl ?_
          exact mE_iret rfl ⟨rfl, _, rfl, rfl, Nat.le_of_ble_eq_true rfl, Nat.le_of_ble_eq_true rfl⟩
        ·
          have h15 : ¬ ((2 : Int32) < f) := h15
          exfalso
          simp only [Int32.not_le, Int32.not_lt, Int32.le_iff_toInt_le, Int32.lt_iff_toInt_lt, mi_m1, mi_0, mi_1, mi_2, mi_4, mi_7, mi_9, mi_19, mi_40, mi_60, mi_2000, mi_10000] at h11 h13 h14 h15
          all_goals omega
    ·
      have h13 : ¬ ((2 : Int32) < f) := h13
      refine mE_ico 11 1 rfl rfl rfl ?_
      refine mE_goto 15 rfl rfl ?_
      refine mE_iret rfl ⟨rfl, ?_⟩
      refine mE_if_eq_f 9 rfl (by decide) rfl ?_
      refine mE_ildn 10 rfl rfl rfl rfl ?_
      refine mE_ico 11 1 rfl rfl rfl ?_
      refine mE_bip 13 9 rfl rfl rfl ?_
      refine mE_cs [.int e, .int 1, .int 9] [] rfl rfl rfl rfl rfl ?_
      refine mR_ix [(0, .int e), (1, .int 1), (2, .int 9)] rfl rfl rfl ?_
      refine mE_ildn 1 rfl rfl rfl rfl ?_
      refine mE_ildn 2 rfl rfl rfl rfl ?_
      refine mE_ic_lt rfl (fun h16 => ?_) (fun h16 => ?_)
      ·
        have h16 : e < (1 : Int32) := h16
        refine mE_ico 15 0 rfl rfl rfl ?_
        refine mE_iret rfl ⟨rfl, ?_⟩
        refine mE_if_eq_t 27 rfl (by decide) rfl ?_
        refine mE_ico 28 (-1) rfl rfl rfl ?_
        refine mE_iret rfl ⟨rfl, ⟨_, mh_47⟩, ?_⟩
        refine mR_ix [(0, .ref 47), (1, .int f), (2, .int e), (3, .int a)] rfl rfl rfl ?_
        refine mE_ildn 1 rfl rfl rfl rfl ?_
        refine mE_ico 2 0 rfl rfl rfl ?_
        refine mE_ico 3 2 rfl rfl rfl ?_
        refine mE_cs [.int f, .int 0, .int 2] [] rfl rfl rfl rfl rfl ?_
        refine mR_ix [(0, .int f), (1, .int 0), (2, .int 2)] rfl rfl rfl ?_
        refine mE_ildn 1 rfl rfl rfl rfl ?_
        refine mE_ildn 2 rfl rfl rfl rfl ?_
        refine mE_ic_lt rfl (fun h17 => ?_) (fun h17 => ?_)
        ·
          have h17 : f < (0 : Int32) := h17
          exfalso
          simp only [Int32.not_le, Int32.not_lt, Int32.le_iff_toInt_le, Int32.lt_iff_toInt_lt, mi_m1, mi_0, mi_1, mi_2, mi_4, mi_7, mi_9, mi_19, mi_40, mi_60, mi_2000, mi_10000] at h11 h13 h17
          all_goals omega
        ·
          have h17 : ¬ (f < (0 : Int32)) := h17
          refine mE_ildn 6 rfl rfl rfl rfl ?_
          refine mE_ildn 7 rfl rfl rfl rfl ?_
          refine mE_ic_gt rfl (fun h18 => ?_) (fun h18 => ?_)
          ·
            have h18 : (2 : Int32) < f := h18
            exfalso
            simp only [Int32.not_le, Int32.not_lt, Int32.le_iff_toInt_le, Int32.lt_iff_toInt_lt, mi_m1, mi_0, mi_1, mi_2, mi_4, mi_7, mi_9, mi_19, mi_40, mi_60, mi_2000, mi_10000] at h11 h13 h17 h18
            all_goals omega
          ·
            have h18 : ¬ ((2 : Int32) < f) := h18
            refine mE_ico 11 1 rfl rfl rfl ?_
            refine mE_goto 15 rfl rfl ?_
            refine mE_iret rfl ⟨rfl, ?_⟩
            refine mE_if_eq_f 9 rfl (by decide) rfl ?_
            refine mE_ildn 10 rfl rfl rfl rfl ?_
            refine mE_ico 11 1 rfl rfl rfl ?_
            refine mE_bip 13 9 rfl rfl rfl ?_
            refine mE_cs [.int e, .int 1, .int 9] [] rfl rfl rfl rfl rfl ?_
            refine mR_ix [(0, .int e), (1, .int 1), (2, .int 9)] rfl rfl rfl ?_
            refine mE_ildn 1 rfl rfl rfl rfl ?_
            refine mE_ildn 2 rfl rfl rfl rfl ?_
            refine mE_ic_lt rfl (fun h19 => ?_) (fun h19 => ?_)
            ·
              have h19 : e < (1 : Int32) := h19
              refine mE_ico 15 0 rfl rfl rfl ?_
              refine mE_iret rfl ⟨rfl, ?_⟩
              refine mE_if_eq_t 27 rfl (by decide) rfl ?_
              refine mE_ico 28 (-1) rfl rfl rfl ?_
              exact mE_iret rfl ⟨rfl, _, rfl, rfl, Nat.le_of_ble_eq_true rfl, Nat.le_of_ble_eq_true rfl⟩
            ·
              have h19 : ¬ (e < (1 : Int32)) := h19
              exfalso
              simp only [Int32.not_le, Int32.not_lt, Int32.le_iff_toInt_le, Int32.lt_iff_toInt_lt, mi_m1, mi_0, mi_1, mi_2, mi_4, mi_7, mi_9, mi_19, mi_40, mi_60, mi_2000, mi_10000] at h16 h19
              all_goals omega
      ·
        have h16 : ¬ (e < (1 : Int32)) := h16
        refine mE_ildn 6 rfl rfl rfl rfl ?_
        refine mE_ildn 7 rfl rfl rfl rfl ?_
        refine mE_ic_gt rfl (fun h20 => ?_) (fun h20 => ?_)
        ·
          have h20 : (9 : Int32) < e := h20
          refine mE_ico 15 0 rfl rfl rfl ?_
          refine mE_iret rfl ⟨rfl, ?_⟩
          refine mE_if_eq_t 27 rfl (by decide) rfl ?_
          refine mE_ico 28 (-1) rfl rfl rfl ?_
          refine mE_iret rfl ⟨rfl, ⟨_, mh_47⟩, ?_⟩
          refine mR_ix [(0, .ref 47), (1, .int f), (2, .int e), (3, .int a)] rfl rfl rfl ?_
          refine mE_ildn 1 rfl rfl rfl rfl ?_
          refine mE_ico 2 0 rfl rfl rfl ?_
          refine mE_ico 3 2 rfl rfl rfl ?_
          refine mE_cs [.int f, .int 0, .int 2] [] rfl rfl rfl rfl rfl ?_
          refine mR_ix [(0, .int f), (1, .int 0), (2, .int 2)] rfl rfl rfl ?_
          refine mE_ildn 1 rfl rfl rfl rfl ?_
          refine mE_ildn 2 rfl rfl rfl rfl ?_
          refine mE_ic_lt rfl (fun h21 => ?_) (fun h21 => ?_)
          ·
            have h21 : f < (0 : Int32) := h21
            exfalso
            simp only [Int32.not_le, Int32.not_lt, Int32.le_iff_toInt_le, Int32.lt_iff_toInt_lt, mi_m1, mi_0, mi_1, mi_2, mi_4, mi_7, mi_9, mi_19, mi_40, mi_60, mi_2000, mi_10000] at h11 h13 h21
            all_goals omega
          ·
            have h21 : ¬ (f < (0 : Int32)) := h21
            refine mE_ildn 6 rfl rfl rfl rfl ?_
            refine mE_ildn 7 rfl rfl rfl rfl ?_
            refine mE_ic_gt rfl (fun h22 => ?_) (fun h22 => ?_)
            ·
              have h22 : (2 : Int32) < f := h22
              exfalso
              simp only [Int32.not_le, Int32.not_lt, Int32.le_iff_toInt_le, Int32.lt_iff_toInt_lt, mi_m1, mi_0, mi_1, mi_2, mi_4, mi_7, mi_9, mi_19, mi_40, mi_60, mi_2000, mi_10000] at h11 h13 h21 h22
              all_goals omega
            ·
              have h22 : ¬ ((2 : Int32) < f) := h22
              refine mE_ico 11 1 rfl rfl rfl ?_
              refine mE_goto 15 rfl rfl ?_
              refine mE_iret rfl ⟨rfl, ?_⟩
              refine mE_if_eq_f 9 rfl (by decide) rfl ?_
              refine mE_ildn 10 rfl rfl rfl rfl ?_
              refine mE_ico 11 1 rfl rfl rfl ?_
              refine mE_bip 13 9 rfl rfl rfl ?_
              refine mE_cs [.int e, .int 1, .int 9] [] rfl rfl rfl rfl rfl ?_
              refine mR_ix [(0, .int e), (1, .int 1), (2, .int 9)] rfl rfl rfl ?_
              refine mE_ildn 1 rfl rfl rfl rfl ?_
              refine mE_ildn 2 rfl rfl rfl rfl ?_
              refine mE_ic_lt rfl (fun h23 => ?_) (fun h23 => ?_)
              ·
                have h23 : e < (1 : Int32) := h23
                exfalso
                simp only [Int32.not_le, Int32.not_lt, Int32.le_iff_toInt_le, Int32.lt_iff_toInt_lt, mi_m1, mi_0, mi_1, mi_2, mi_4, mi_7, mi_9, mi_19, mi_40, mi_60, mi_2000, mi_10000] at h16 h20 h23
                all_goals omega
              ·
                have h23 : ¬ (e < (1 : Int32)) := h23
                refine mE_ildn 6 rfl rfl rfl rfl ?_
                refine mE_ildn 7 rfl rfl rfl rfl ?_
                refine mE_ic_gt rfl (fun h24 => ?_) (fun h24 => ?_)
                ·
                  have h24 : (9 : Int32) < e := h24
                  refine mE_ico 15 0 rfl rfl rfl ?_
                  refine mE_iret rfl ⟨rfl, ?_⟩
                  refine mE_if_eq_t 27 rfl (by decide) rfl ?_
                  refine mE_ico 28 (-1) rfl rfl rfl ?_
                  exact mE_iret rfl ⟨rfl, _, rfl, rfl, Nat.le_of_ble_eq_true rfl, Nat.le_of_ble_eq_true rfl⟩
                ·
                  have h24 : ¬ ((9 : Int32) < e) := h24
                  exfalso
                  simp only [Int32.not_le, Int32.not_lt, Int32.le_iff_toInt_le, Int32.lt_iff_toInt_lt, mi_m1, mi_0, mi_1, mi_2, mi_4, mi_7, mi_9, mi_19, mi_40, mi_60, mi_2000, mi_10000] at h16 h20 h23 h24
                  all_goals omega
        ·
          have h20 : ¬ ((9 : Int32) < e) := h20
          refine mE_ico 11 1 rfl rfl rfl ?_
          refine mE_goto 15 rfl rfl ?_
          refine mE_iret rfl ⟨rfl, ?_⟩
          refine mE_if_eq_f 19 rfl (by decide) rfl ?_
          refine mE_aldn 20 rfl rfl rfl rfl ?_
          refine mE_ildn 21 rfl rfl rfl rfl ?_
          refine mE_cv [.int a] [] rfl rfl rfl rfl mh_0 rfl ?_
          refine mR_ix [(0, .ref 0), (1, .int a)] rfl rfl rfl ?_
          refine mE_ildn 1 rfl rfl rfl rfl ?_
          refine mE_ico 2 0 rfl rfl rfl ?_
          refine mE_aldn 3 rfl rfl rfl rfl ?_
          refine mE_gf 6 rfl rfl mh_0 rfl rfl ?_
          refine mE_ico 7 1 rfl rfl rfl ?_
          refine mE_isub 8 (-1) rfl rfl rfl ?_
          refine mE_cs [.int a, .int 0, .int (-1)] [] rfl rfl rfl rfl rfl ?_
          refine mR_ix [(0, .int a), (1, .int 0), (2, .int (-1))] rfl rfl rfl ?_
          refine mE_ildn 1 rfl rfl rfl rfl ?_
          refine mE_ildn 2 rfl rfl rfl rfl ?_
          refine mE_ic_lt rfl (fun h25 => ?_) (fun h25 => ?_)
          ·
            have h25 : a < (0 : Int32) := h25
            refine mE_ico 15 0 rfl rfl rfl ?_
            refine mE_iret rfl ⟨rfl, ?_⟩
            refine mE_iret rfl ⟨rfl, ?_⟩
            refine mE_if_ne_f 27 rfl (by decide) rfl ?_
            refine mE_ico 28 (-1) rfl rfl rfl ?_
            refine mE_iret rfl ⟨rfl, ⟨_, mh_47⟩, ?_⟩
            refine mR_ix [(0, .ref 47), (1, .int f), (2, .int e), (3, .int a)] rfl rfl rfl ?_
            refine mE_ildn 1 rfl rfl rfl rfl ?_
            refine mE_ico 2 0 rfl rfl rfl ?_
            refine mE_ico 3 2 rfl rfl rfl ?_
            refine mE_cs [.int f, .int 0, .int 2] [] rfl rfl rfl rfl rfl ?_
            refine mR_ix [(0, .int f), (1, .int 0), (2, .int 2)] rfl rfl rfl ?_
            refine mE_ildn 1 rfl rfl rfl rfl ?_
            refine mE_ildn 2 rfl rfl rfl rfl ?_
            refine mE_ic_lt rfl (fun h26 => ?_) (fun h26 => ?_)
            ·
              have h26 : f < (0 : Int32) := h26
              exfalso
              simp only [Int32.not_le, Int32.not_lt, Int32.le_iff_toInt_le, Int32.lt_iff_toInt_lt, mi_m1, mi_0, mi_1, mi_2, mi_4, mi_7, mi_9, mi_19, mi_40, mi_60, mi_2000, mi_10000] at h11 h13 h26
              all_goals omega
            ·
              have h26 : ¬ (f < (0 : Int32)) := h26
              refine mE_ildn 6 rfl rfl rfl rfl ?_
              refine mE_ildn 7 rfl rfl rfl rfl ?_
              refine mE_ic_gt rfl (fun h27 => ?_) (fun h27 => ?_)
              ·
                have h27 : (2 : Int32) < f := h27
                exfalso
                simp only [Int32.not_le, Int32.not_lt, Int32.le_iff_toInt_le, Int32.lt_iff_toInt_lt, mi_m1, mi_0, mi_1, mi_2, mi_4, mi_7, mi_9, mi_19, mi_40, mi_60, mi_2000, mi_10000] at h11 h13 h26 h27
                all_goals omega
              ·
                have h27 : ¬ ((2 : Int32) < f) := h27
                refine mE_ico 11 1 rfl rfl rfl ?_
                refine mE_goto 15 rfl rfl ?_
                refine mE_iret rfl ⟨rfl, ?_⟩
                refine mE_if_eq_f 9 rfl (by decide) rfl ?_
                refine mE_ildn 10 rfl rfl rfl rfl ?_
                refine mE_ico 11 1 rfl rfl rfl ?_
                refine mE_bip 13 9 rfl rfl rfl ?_
                refine mE_cs [.int e, .int 1, .int 9] [] rfl rfl rfl rfl rfl ?_
                refine mR_ix [(0, .int e), (1, .int 1), (2, .int 9)] rfl rfl rfl ?_
                refine mE_ildn 1 rfl rfl rfl rfl ?_
                refine mE_ildn 2 rfl rfl rfl rfl ?_
                refine mE_ic_lt rfl (fun h28 => ?_) (fun h28 => ?_)
                ·
                  have h28 : e < (1 : Int32) := h28
                  exfalso
                  simp only [Int32.not_le, Int32.not_lt, Int32.le_iff_toInt_le, Int32.lt_iff_toInt_lt, mi_m1, mi_0, mi_1, mi_2, mi_4, mi_7, mi_9, mi_19, mi_40, mi_60, mi_2000, mi_10000] at h16 h20 h28
                  all_goals omega
                ·
                  have h28 : ¬ (e < (1 : Int32)) := h28
                  refine mE_ildn 6 rfl rfl rfl rfl ?_
                  refine mE_ildn 7 rfl rfl rfl rfl ?_
                  refine mE_ic_gt rfl (fun h29 => ?_) (fun h29 => ?_)
                  ·
                    have h29 : (9 : Int32) < e := h29
                    exfalso
                    simp only [Int32.not_le, Int32.not_lt, Int32.le_iff_toInt_le, Int32.lt_iff_toInt_lt, mi_m1, mi_0, mi_1, mi_2, mi_4, mi_7, mi_9, mi_19, mi_40, mi_60, mi_2000, mi_10000] at h16 h20 h28 h29
                    all_goals omega
                  ·
                    have h29 : ¬ ((9 : Int32) < e) := h29
                    refine mE_ico 11 1 rfl rfl rfl ?_
                    refine mE_goto 15 rfl rfl ?_
                    refine mE_iret rfl ⟨rfl, ?_⟩
                    refine mE_if_eq_f 19 rfl (by decide) rfl ?_
                    refine mE_aldn 20 rfl rfl rfl rfl ?_
                    refine mE_ildn 21 rfl rfl rfl rfl ?_
                    refine mE_cv [.int a] [] rfl rfl rfl rfl mh_47 rfl ?_
                    refine mR_ix [(0, .ref 47), (1, .int a)] rfl rfl rfl ?_
                    refine mE_ildn 1 rfl rfl rfl rfl ?_
                    refine mE_if_lt rfl (fun h30 => ?_) (fun h30 => ?_)
                    ·
                      have h30 : a < (0 : Int32) := h30
                      refine mE_ico 17 0 rfl rfl rfl ?_
                      refine mE_iret rfl ⟨rfl, ?_⟩
                      refine mE_if_ne_f 27 rfl (by decide) rfl ?_
                      refine mE_ico 28 (-1) rfl rfl rfl ?_
                      exact mE_iret rfl ⟨rfl, _, rfl, rfl, Nat.le_of_ble_eq_true rfl, Nat.le_of_ble_eq_true rfl⟩
                    ·
                      have h30 : ¬ (a < (0 : Int32)) := h30
                      exfalso
                      simp only [Int32.not_le, Int32.not_lt, Int32.le_iff_toInt_le, Int32.lt_iff_toInt_lt, mi_m1, mi_0, mi_1, mi_2, mi_4, mi_7, mi_9, mi_19, mi_40, mi_60, mi_2000, mi_10000] at h25 h30
                      all_goals omega
          ·
            have h25 : ¬ (a < (0 : Int32)) := h25
            refine mE_ildn 6 rfl rfl rfl rfl ?_
            refine mE_ildn 7 rfl rfl rfl rfl ?_
            refine mE_ic_gt rfl (fun h31 => ?_) (fun h31 => ?_)
            ·
              have h31 : (-1 : Int32) < a := h31
              refine mE_ico 15 0 rfl rfl rfl ?_
              refine mE_iret rfl ⟨rfl, ?_⟩
              refine mE_iret rfl ⟨rfl, ?_⟩
              refine mE_if_ne_f 27 rfl (by decide) rfl ?_
              refine mE_ico 28 (-1) rfl rfl rfl ?_
              refine mE_iret rfl ⟨rfl, ⟨_, mh_47⟩, ?_⟩
              refine mR_ix [(0, .ref 47), (1, .int f), (2, .int e), (3, .int a)] rfl rfl rfl ?_
              refine mE_ildn 1 rfl rfl rfl rfl ?_
              refine mE_ico 2 0 rfl rfl rfl ?_
              refine mE_ico 3 2 rfl rfl rfl ?_
              refine mE_cs [.int f, .int 0, .int 2] [] rfl rfl rfl rfl rfl ?_
              refine mR_ix [(0, .int f), (1, .int 0), (2, .int 2)] rfl rfl rfl ?_
              refine mE_ildn 1 rfl rfl rfl rfl ?_
              refine mE_ildn 2 rfl rfl rfl rfl ?_
              refine mE_ic_lt rfl (fun h32 => ?_) (fun h32 => ?_)
              ·
                have h32 : f < (0 : Int32) := h32
                exfalso
                simp only [Int32.not_le, Int32.not_lt, Int32.le_iff_toInt_le, Int32.lt_iff_toInt_lt, mi_m1, mi_0, mi_1, mi_2, mi_4, mi_7, mi_9, mi_19, mi_40, mi_60, mi_2000, mi_10000] at h11 h13 h32
                all_goals omega
              ·
                have h32 : ¬ (f < (0 : Int32)) := h32
                refine mE_ildn 6 rfl rfl rfl rfl ?_
                refine mE_ildn 7 rfl rfl rfl rfl ?_
                refine mE_ic_gt rfl (fun h33 => ?_) (fun h33 => ?_)
                ·
                  have h33 : (2 : Int32) < f := h33
                  exfalso
                  simp only [Int32.not_le, Int32.not_lt, Int32.le_iff_toInt_le, Int32.lt_iff_toInt_lt, mi_m1, mi_0, mi_1, mi_2, mi_4, mi_7, mi_9, mi_19, mi_40, mi_60, mi_2000, mi_10000] at h11 h13 h32 h33
                  all_goals omega
                ·
                  have h33 : ¬ ((2 : Int32) < f) := h33
                  refine mE_ico 11 1 rfl rfl rfl ?_
                  refine mE_goto 15 rfl rfl ?_
                  refine mE_iret rfl ⟨rfl, ?_⟩
                  refine mE_if_eq_f 9 rfl (by decide) rfl ?_
                  refine mE_ildn 10 rfl rfl rfl rfl ?_
                  refine mE_ico 11 1 rfl rfl rfl ?_
                  refine mE_bip 13 9 rfl rfl rfl ?_
                  refine mE_cs [.int e, .int 1, .int 9] [] rfl rfl rfl rfl rfl ?_
                  refine mR_ix [(0, .int e), (1, .int 1), (2, .int 9)] rfl rfl rfl ?_
                  refine mE_ildn 1 rfl rfl rfl rfl ?_
                  refine mE_ildn 2 rfl rfl rfl rfl ?_
                  refine mE_ic_lt rfl (fun h34 => ?_) (fun h34 => ?_)
                  ·
                    have h34 : e < (1 : Int32) := h34
                    exfalso
                    simp only [Int32.not_le, Int32.not_lt, Int32.le_iff_toInt_le, Int32.lt_iff_toInt_lt, mi_m1, mi_0, mi_1, mi_2, mi_4, mi_7, mi_9, mi_19, mi_40, mi_60, mi_2000, mi_10000] at h16 h20 h34
                    all_goals omega
                  ·
                    have h34 : ¬ (e < (1 : Int32)) := h34
                    refine mE_ildn 6 rfl rfl rfl rfl ?_
                    refine mE_ildn 7 rfl rfl rfl rfl ?_
                    refine mE_ic_gt rfl (fun h35 => ?_) (fun h35 => ?_)
                    ·
                      have h35 : (9 : Int32) < e := h35
                      exfalso
                      simp only [Int32.not_le, Int32.not_lt, Int32.le_iff_toInt_le, Int32.lt_iff_toInt_lt, mi_m1, mi_0, mi_1, mi_2, mi_4, mi_7, mi_9, mi_19, mi_40, mi_60, mi_2000, mi_10000] at h16 h20 h34 h35
                      all_goals omega
                    ·
                      have h35 : ¬ ((9 : Int32) < e) := h35
                      refine mE_ico 11 1 rfl rfl rfl ?_
                      refine mE_goto 15 rfl rfl ?_
                      refine mE_iret rfl ⟨rfl, ?_⟩
                      refine mE_if_eq_f 19 rfl (by decide) rfl ?_
                      refine mE_aldn 20 rfl rfl rfl rfl ?_
                      refine mE_ildn 21 rfl rfl rfl rfl ?_
                      refine mE_cv [.int a] [] rfl rfl rfl rfl mh_47 rfl ?_
                      refine mR_ix [(0, .ref 47), (1, .int a)] rfl rfl rfl ?_
                      refine mE_ildn 1 rfl rfl rfl rfl ?_
                      refine mE_if_lt rfl (fun h36 => ?_) (fun h36 => ?_)
                      ·
                        have h36 : a < (0 : Int32) := h36
                        exfalso
                        simp only [Int32.not_le, Int32.not_lt, Int32.le_iff_toInt_le, Int32.lt_iff_toInt_lt, mi_m1, mi_0, mi_1, mi_2, mi_4, mi_7, mi_9, mi_19, mi_40, mi_60, mi_2000, mi_10000] at h25 h31 h36
                        all_goals omega
                      ·
                        have h36 : ¬ (a < (0 : Int32)) := h36
                        refine mE_ildn 5 rfl rfl rfl rfl ?_
                        refine mE_aldn 6 rfl rfl rfl rfl ?_
                        refine mE_gf 9 rfl rfl mh_47 rfl rfl ?_
                        refine mE_ic_ge rfl (fun h37 => ?_) (fun h37 => ?_)
                        ·
                          have h37 : (0 : Int32) ≤ a := h37
                          refine mE_ico 17 0 rfl rfl rfl ?_
                          refine mE_iret rfl ⟨rfl, ?_⟩
                          refine mE_if_ne_f 27 rfl (by decide) rfl ?_
                          refine mE_ico 28 (-1) rfl rfl rfl ?_
                          exact mE_iret rfl ⟨rfl, _, rfl, rfl, Nat.le_of_ble_eq_true rfl, Nat.le_of_ble_eq_true rfl⟩
                        ·
                          have h37 : ¬ ((0 : Int32) ≤ a) := h37
                          exfalso
                          simp only [Int32.not_le, Int32.not_lt, Int32.le_iff_toInt_le, Int32.lt_iff_toInt_lt, mi_m1, mi_0, mi_1, mi_2, mi_4, mi_7, mi_9, mi_19, mi_40, mi_60, mi_2000, mi_10000] at h25 h31 h36 h37
                          all_goals omega
            ·
              have h31 : ¬ ((-1 : Int32) < a) := h31
              exfalso
              simp only [Int32.not_le, Int32.not_lt, Int32.le_iff_toInt_le, Int32.lt_iff_toInt_lt, mi_m1, mi_0, mi_1, mi_2, mi_4, mi_7, mi_9, mi_19, mi_40, mi_60, mi_2000, mi_10000] at h25 h31
              all_goals omega

set_option maxHeartbeats 4000000 in
set_option maxRecDepth 100000 in
theorem b_beasts (a n : Int32)  : mBoth 61 131 [.int a, .int n] := by
  apply mBoth_of
  refine mR_ix [(0, .ref 0), (1, .int a), (2, .int n)] rfl rfl rfl ?_
  refine mE_aldn 1 rfl rfl rfl rfl ?_
  refine mE_ildn 2 rfl rfl rfl rfl ?_
  refine mE_cv [.int a] [] rfl rfl rfl rfl mh_0 rfl ?_
  refine mR_ix [(0, .ref 0), (1, .int a)] rfl rfl rfl ?_
  refine mE_ildn 1 rfl rfl rfl rfl ?_
  refine mE_ico 2 0 rfl rfl rfl ?_
  refine mE_aldn 3 rfl rfl rfl rfl ?_
  refine mE_gf 6 rfl rfl mh_0 rfl rfl ?_
  refine mE_ico 7 1 rfl rfl rfl ?_
  refine mE_isub 8 (-1) rfl rfl rfl ?_
  refine mE_cs [.int a, .int 0, .int (-1)] [] rfl rfl rfl rfl rfl ?_
  refine mR_ix [(0, .int a), (1, .int 0), (2, .int (-1))] rfl rfl rfl ?_
  refine mE_ildn 1 rfl rfl rfl rfl ?_
  refine mE_ildn 2 rfl rfl rfl rfl ?_
  refine mE_ic_lt rfl (fun h11 => ?_) (fun h11 => ?_)
  ·
    have h11 : a < (0 : Int32) := h11
    refine mE_ico 15 0 rfl rfl rfl ?_
    refine mE_iret rfl ⟨rfl, ?_⟩
    refine mE_iret rfl ⟨rfl, ?_⟩
    refine mE_if_eq_t 18 rfl (by decide) rfl ?_
    refine mE_ico 19 (-1) rfl rfl rfl ?_
    refine mE_iret rfl ⟨rfl, ⟨_, mh_47⟩, ?_⟩
    refine mR_ix [(0, .ref 47), (1, .int a), (2, .int n)] rfl rfl rfl ?_
    refine mE_aldn 1 rfl rfl rfl rfl ?_
    refine mE_ildn 2 rfl rfl rfl rfl ?_
    refine mE_cv [.int a] [] rfl rfl rfl rfl mh_47 rfl ?_
    refine mR_ix [(0, .ref 47), (1, .int a)] rfl rfl rfl ?_
    refine mE_ildn 1 rfl rfl rfl rfl ?_
    refine mE_if_lt rfl (fun h12 => ?_) (fun h12 => ?_)
    ·
      have h12 : a < (0 : Int32) := h12
      refine mE_ico 17 0 rfl rfl rfl ?_
      refine mE_iret rfl ⟨rfl, ?_⟩
      refine mE_if_eq_t 18 rfl (by decide) rfl ?_
      refine mE_ico 19 (-1) rfl rfl rfl ?_
      exact mE_iret rfl ⟨rfl, _, rfl, rfl, Nat.le_of_ble_eq_true rfl, Nat.le_of_ble_eq_true rfl⟩
    ·
      have h12 : ¬ (a < (0 : Int32)) := h12
      exfalso
      simp only [Int32.not_le, Int32.not_lt, Int32.le_iff_toInt_le, Int32.lt_iff_toInt_lt, mi_m1, mi_0, mi_1, mi_2, mi_4, mi_7, mi_9, mi_19, mi_40, mi_60, mi_2000, mi_10000] at h11 h12
      all_goals omega
  ·
    have h11 : ¬ (a < (0 : Int32)) := h11
    refine mE_ildn 6 rfl rfl rfl rfl ?_
    refine mE_ildn 7 rfl rfl rfl rfl ?_
    refine mE_ic_gt rfl (fun h13 => ?_) (fun h13 => ?_)
    ·
      have h13 : (-1 : Int32) < a := h13
      refine mE_ico 15 0 rfl rfl rfl ?_
      refine mE_iret rfl ⟨rfl, ?_⟩
      refine mE_iret rfl ⟨rfl, ?_⟩
      refine mE_if_eq_t 18 rfl (by decide) rfl ?_
      refine mE_ico 19 (-1) rfl rfl rfl ?_
      refine mE_iret rfl ⟨rfl, ⟨_, mh_47⟩, ?_⟩
      refine mR_ix [(0, .ref 47), (1, .int a), (2, .int n)] rfl rfl rfl ?_
      refine mE_aldn 1 rfl rfl rfl rfl ?_
      refine mE_ildn 2 rfl rfl rfl rfl ?_
      refine mE_cv [.int a] [] rfl rfl rfl rfl mh_47 rfl ?_
      refine mR_ix [(0, .ref 47), (1, .int a)] rfl rfl rfl ?_
      refine mE_ildn 1 rfl rfl rfl rfl ?_
      refine mE_if_lt rfl (fun h14 => ?_) (fun h14 => ?_)
      ·
        have h14 : a < (0 : Int32) := h14
        exfalso
        simp only [Int32.not_le, Int32.not_lt, Int32.le_iff_toInt_le, Int32.lt_iff_toInt_lt, mi_m1, mi_0, mi_1, mi_2, mi_4, mi_7, mi_9, mi_19, mi_40, mi_60, mi_2000, mi_10000] at h11 h13 h14
        all_goals omega
      ·
        have h14 : ¬ (a < (0 : Int32)) := h14
        refine mE_ildn 5 rfl rfl rfl rfl ?_
        refine mE_aldn 6 rfl rfl rfl rfl ?_
        refine mE_gf 9 rfl rfl mh_47 rfl rfl ?_
        refine mE_ic_ge rfl (fun h15 => ?_) (fun h15 => ?_)
        ·
          have h15 : (0 : Int32) ≤ a := h15
          refine mE_ico 17 0 rfl rfl rfl ?_
          refine mE_iret rfl ⟨rfl, ?_⟩
          refine mE_if_eq_t 18 rfl (by decide) rfl ?_
          refine mE_ico 19 (-1) rfl rfl rfl ?_
          exact mE_iret rfl ⟨rfl, _, rfl, rfl, Nat.le_of_ble_eq_true rfl, Nat.le_of_ble_eq_true rfl⟩
        ·
          have h15 : ¬ ((0 : Int32) ≤ a) := h15
          exfalso
          simp only [Int32.not_le, Int32.not_lt, Int32.le_iff_toInt_le, Int32.lt_iff_toInt_lt, mi_m1, mi_0, mi_1, mi_2, mi_4, mi_7, mi_9, mi_19, mi_40, mi_60, mi_2000, mi_10000] at h11 h13 h14 h15
          all_goals omega
    ·
      have h13 : ¬ ((-1 : Int32) < a) := h13
      exfalso
      simp only [Int32.not_le, Int32.not_lt, Int32.le_iff_toInt_le, Int32.lt_iff_toInt_lt, mi_m1, mi_0, mi_1, mi_2, mi_4, mi_7, mi_9, mi_19, mi_40, mi_60, mi_2000, mi_10000] at h11 h13
      all_goals omega

set_option maxHeartbeats 4000000 in
set_option maxRecDepth 100000 in
theorem b_sow (a : Int32)  : mBoth 62 133 [.int a] := by
  apply mBoth_of
  refine mR_ix [(0, .ref 0), (1, .int a)] rfl rfl rfl ?_
  refine mE_aldn 1 rfl rfl rfl rfl ?_
  refine mE_ildn 2 rfl rfl rfl rfl ?_
  refine mE_cv [.int a] [] rfl rfl rfl rfl mh_0 rfl ?_
  refine mR_ix [(0, .ref 0), (1, .int a)] rfl rfl rfl ?_
  refine mE_ildn 1 rfl rfl rfl rfl ?_
  refine mE_ico 2 0 rfl rfl rfl ?_
  refine mE_aldn 3 rfl rfl rfl rfl ?_
  refine mE_gf 6 rfl rfl mh_0 rfl rfl ?_
  refine mE_ico 7 1 rfl rfl rfl ?_
  refine mE_isub 8 (-1) rfl rfl rfl ?_
  refine mE_cs [.int a, .int 0, .int (-1)] [] rfl rfl rfl rfl rfl ?_
  refine mR_ix [(0, .int a), (1, .int 0), (2, .int (-1))] rfl rfl rfl ?_
  refine mE_ildn 1 rfl rfl rfl rfl ?_
  refine mE_ildn 2 rfl rfl rfl rfl ?_
  refine mE_ic_lt rfl (fun h11 => ?_) (fun h11 => ?_)
  ·
    have h11 : a < (0 : Int32) := h11
    refine mE_ico 15 0 rfl rfl rfl ?_
    refine mE_iret rfl ⟨rfl, ?_⟩
    refine mE_iret rfl ⟨rfl, ?_⟩
    refine mE_if_ne_f 8 rfl (by decide) rfl ?_
    refine mE_ico 9 (-1) rfl rfl rfl ?_
    refine mE_iret rfl ⟨rfl, ⟨_, mh_47⟩, ?_⟩
    refine mR_ix [(0, .ref 47), (1, .int a)] rfl rfl rfl ?_
    refine mE_aldn 1 rfl rfl rfl rfl ?_
    refine mE_ildn 2 rfl rfl rfl rfl ?_
    refine mE_cv [.int a] [] rfl rfl rfl rfl mh_47 rfl ?_
    refine mR_ix [(0, .ref 47), (1, .int a)] rfl rfl rfl ?_
    refine mE_ildn 1 rfl rfl rfl rfl ?_
    refine mE_if_lt rfl (fun h12 => ?_) (fun h12 => ?_)
    ·
      have h12 : a < (0 : Int32) := h12
      refine mE_ico 17 0 rfl rfl rfl ?_
      refine mE_iret rfl ⟨rfl, ?_⟩
      refine mE_if_ne_f 8 rfl (by decide) rfl ?_
      refine mE_ico 9 (-1) rfl rfl rfl ?_
      exact mE_iret rfl ⟨rfl, _, rfl, rfl, Nat.le_of_ble_eq_true rfl, Nat.le_of_ble_eq_true rfl⟩
    ·
      have h12 : ¬ (a < (0 : Int32)) := h12
      exfalso
      simp only [Int32.not_le, Int32.not_lt, Int32.le_iff_toInt_le, Int32.lt_iff_toInt_lt, mi_m1, mi_0, mi_1, mi_2, mi_4, mi_7, mi_9, mi_19, mi_40, mi_60, mi_2000, mi_10000] at h11 h12
      all_goals omega
  ·
    have h11 : ¬ (a < (0 : Int32)) := h11
    refine mE_ildn 6 rfl rfl rfl rfl ?_
    refine mE_ildn 7 rfl rfl rfl rfl ?_
    refine mE_ic_gt rfl (fun h13 => ?_) (fun h13 => ?_)
    ·
      have h13 : (-1 : Int32) < a := h13
      refine mE_ico 15 0 rfl rfl rfl ?_
      refine mE_iret rfl ⟨rfl, ?_⟩
      refine mE_iret rfl ⟨rfl, ?_⟩
      refine mE_if_ne_f 8 rfl (by decide) rfl ?_
      refine mE_ico 9 (-1) rfl rfl rfl ?_
      refine mE_iret rfl ⟨rfl, ⟨_, mh_47⟩, ?_⟩
      refine mR_ix [(0, .ref 47), (1, .int a)] rfl rfl rfl ?_
      refine mE_aldn 1 rfl rfl rfl rfl ?_
      refine mE_ildn 2 rfl rfl rfl rfl ?_
      refine mE_cv [.int a] [] rfl rfl rfl rfl mh_47 rfl ?_
      refine mR_ix [(0, .ref 47), (1, .int a)] rfl rfl rfl ?_
      refine mE_ildn 1 rfl rfl rfl rfl ?_
      refine mE_if_lt rfl (fun h14 => ?_) (fun h14 => ?_)
      ·
        have h14 : a < (0 : Int32) := h14
        exfalso
        simp only [Int32.not_le, Int32.not_lt, Int32.le_iff_toInt_le, Int32.lt_iff_toInt_lt, mi_m1, mi_0, mi_1, mi_2, mi_4, mi_7, mi_9, mi_19, mi_40, mi_60, mi_2000, mi_10000] at h11 h13 h14
        all_goals omega
      ·
        have h14 : ¬ (a < (0 : Int32)) := h14
        refine mE_ildn 5 rfl rfl rfl rfl ?_
        refine mE_aldn 6 rfl rfl rfl rfl ?_
        refine mE_gf 9 rfl rfl mh_47 rfl rfl ?_
        refine mE_ic_ge rfl (fun h15 => ?_) (fun h15 => ?_)
        ·
          have h15 : (0 : Int32) ≤ a := h15
          refine mE_ico 17 0 rfl rfl rfl ?_
          refine mE_iret rfl ⟨rfl, ?_⟩
          refine mE_if_ne_f 8 rfl (by decide) rfl ?_
          refine mE_ico 9 (-1) rfl rfl rfl ?_
          exact mE_iret rfl ⟨rfl, _, rfl, rfl, Nat.le_of_ble_eq_true rfl, Nat.le_of_ble_eq_true rfl⟩
        ·
          have h15 : ¬ ((0 : Int32) ≤ a) := h15
          exfalso
          simp only [Int32.not_le, Int32.not_lt, Int32.le_iff_toInt_le, Int32.lt_iff_toInt_lt, mi_m1, mi_0, mi_1, mi_2, mi_4, mi_7, mi_9, mi_19, mi_40, mi_60, mi_2000, mi_10000] at h11 h13 h14 h15
          all_goals omega
    ·
      have h13 : ¬ ((-1 : Int32) < a) := h13
      exfalso
      simp only [Int32.not_le, Int32.not_lt, Int32.le_iff_toInt_le, Int32.lt_iff_toInt_lt, mi_m1, mi_0, mi_1, mi_2, mi_4, mi_7, mi_9, mi_19, mi_40, mi_60, mi_2000, mi_10000] at h11 h13
      all_goals omega

set_option maxHeartbeats 4000000 in
set_option maxRecDepth 100000 in
theorem b_reap (a : Int32)  : mBoth 63 135 [.int a] := by
  apply mBoth_of
  refine mR_ix [(0, .ref 0), (1, .int a)] rfl rfl rfl ?_
  refine mE_aldn 1 rfl rfl rfl rfl ?_
  refine mE_ildn 2 rfl rfl rfl rfl ?_
  refine mE_cv [.int a] [] rfl rfl rfl rfl mh_0 rfl ?_
  refine mR_ix [(0, .ref 0), (1, .int a)] rfl rfl rfl ?_
  refine mE_ildn 1 rfl rfl rfl rfl ?_
  refine mE_ico 2 0 rfl rfl rfl ?_
  refine mE_aldn 3 rfl rfl rfl rfl ?_
  refine mE_gf 6 rfl rfl mh_0 rfl rfl ?_
  refine mE_ico 7 1 rfl rfl rfl ?_
  refine mE_isub 8 (-1) rfl rfl rfl ?_
  refine mE_cs [.int a, .int 0, .int (-1)] [] rfl rfl rfl rfl rfl ?_
  refine mR_ix [(0, .int a), (1, .int 0), (2, .int (-1))] rfl rfl rfl ?_
  refine mE_ildn 1 rfl rfl rfl rfl ?_
  refine mE_ildn 2 rfl rfl rfl rfl ?_
  refine mE_ic_lt rfl (fun h11 => ?_) (fun h11 => ?_)
  ·
    have h11 : a < (0 : Int32) := h11
    refine mE_ico 15 0 rfl rfl rfl ?_
    refine mE_iret rfl ⟨rfl, ?_⟩
    refine mE_iret rfl ⟨rfl, ?_⟩
    refine mE_if_ne_f 8 rfl (by decide) rfl ?_
    refine mE_ico 9 (-1) rfl rfl rfl ?_
    refine mE_iret rfl ⟨rfl, ⟨_, mh_47⟩, ?_⟩
    refine mR_ix [(0, .ref 47), (1, .int a)] rfl rfl rfl ?_
    refine mE_aldn 1 rfl rfl rfl rfl ?_
    refine mE_ildn 2 rfl rfl rfl rfl ?_
    refine mE_cv [.int a] [] rfl rfl rfl rfl mh_47 rfl ?_
    refine mR_ix [(0, .ref 47), (1, .int a)] rfl rfl rfl ?_
    refine mE_ildn 1 rfl rfl rfl rfl ?_
    refine mE_if_lt rfl (fun h12 => ?_) (fun h12 => ?_)
    ·
      have h12 : a < (0 : Int32) := h12
      refine mE_ico 17 0 rfl rfl rfl ?_
      refine mE_iret rfl ⟨rfl, ?_⟩
      refine mE_if_ne_f 8 rfl (by decide) rfl ?_
      refine mE_ico 9 (-1) rfl rfl rfl ?_
      exact mE_iret rfl ⟨rfl, _, rfl, rfl, Nat.le_of_ble_eq_true rfl, Nat.le_of_ble_eq_true rfl⟩
    ·
      have h12 : ¬ (a < (0 : Int32)) := h12
      exfalso
      simp only [Int32.not_le, Int32.not_lt, Int32.le_iff_toInt_le, Int32.lt_iff_toInt_lt, mi_m1, mi_0, mi_1, mi_2, mi_4, mi_7, mi_9, mi_19, mi_40, mi_60, mi_2000, mi_10000] at h11 h12
      all_goals omega
  ·
    have h11 : ¬ (a < (0 : Int32)) := h11
    refine mE_ildn 6 rfl rfl rfl rfl ?_
    refine mE_ildn 7 rfl rfl rfl rfl ?_
    refine mE_ic_gt rfl (fun h13 => ?_) (fun h13 => ?_)
    ·
      have h13 : (-1 : Int32) < a := h13
      refine mE_ico 15 0 rfl rfl rfl ?_
      refine mE_iret rfl ⟨rfl, ?_⟩
      refine mE_iret rfl ⟨rfl, ?_⟩
      refine mE_if_ne_f 8 rfl (by decide) rfl ?_
      refine mE_ico 9 (-1) rfl rfl rfl ?_
      refine mE_iret rfl ⟨rfl, ⟨_, mh_47⟩, ?_⟩
      refine mR_ix [(0, .ref 47), (1, .int a)] rfl rfl rfl ?_
      refine mE_aldn 1 rfl rfl rfl rfl ?_
      refine mE_ildn 2 rfl rfl rfl rfl ?_
      refine mE_cv [.int a] [] rfl rfl rfl rfl mh_47 rfl ?_
      refine mR_ix [(0, .ref 47), (1, .int a)] rfl rfl rfl ?_
      refine mE_ildn 1 rfl rfl rfl rfl ?_
      refine mE_if_lt rfl (fun h14 => ?_) (fun h14 => ?_)
      ·
        have h14 : a < (0 : Int32) := h14
        exfalso
        simp only [Int32.not_le, Int32.not_lt, Int32.le_iff_toInt_le, Int32.lt_iff_toInt_lt, mi_m1, mi_0, mi_1, mi_2, mi_4, mi_7, mi_9, mi_19, mi_40, mi_60, mi_2000, mi_10000] at h11 h13 h14
        all_goals omega
      ·
        have h14 : ¬ (a < (0 : Int32)) := h14
        refine mE_ildn 5 rfl rfl rfl rfl ?_
        refine mE_aldn 6 rfl rfl rfl rfl ?_
        refine mE_gf 9 rfl rfl mh_47 rfl rfl ?_
        refine mE_ic_ge rfl (fun h15 => ?_) (fun h15 => ?_)
        ·
          have h15 : (0 : Int32) ≤ a := h15
          refine mE_ico 17 0 rfl rfl rfl ?_
          refine mE_iret rfl ⟨rfl, ?_⟩
          refine mE_if_ne_f 8 rfl (by decide) rfl ?_
          refine mE_ico 9 (-1) rfl rfl rfl ?_
          exact mE_iret rfl ⟨rfl, _, rfl, rfl, Nat.le_of_ble_eq_true rfl, Nat.le_of_ble_eq_true rfl⟩
        ·
          have h15 : ¬ ((0 : Int32) ≤ a) := h15
          exfalso
          simp only [Int32.not_le, Int32.not_lt, Int32.le_iff_toInt_le, Int32.lt_iff_toInt_lt, mi_m1, mi_0, mi_1, mi_2, mi_4, mi_7, mi_9, mi_19, mi_40, mi_60, mi_2000, mi_10000] at h11 h13 h14 h15
          all_goals omega
    ·
      have h13 : ¬ ((-1 : Int32) < a) := h13
      exfalso
      simp only [Int32.not_le, Int32.not_lt, Int32.le_iff_toInt_le, Int32.lt_iff_toInt_lt, mi_m1, mi_0, mi_1, mi_2, mi_4, mi_7, mi_9, mi_19, mi_40, mi_60, mi_2000, mi_10000] at h11 h13
      all_goals omega

set_option maxHeartbeats 4000000 in
set_option maxRecDepth 100000 in
theorem b_land (a w : Int32)  : mBoth 65 142 [.int a, .int w] := by
  apply mBoth_of
  refine mR_ix [(0, .ref 0), (1, .int a), (2, .int w)] rfl rfl rfl ?_
  refine mE_aldn 1 rfl rfl rfl rfl ?_
  refine mE_ildn 2 rfl rfl rfl rfl ?_
  refine mE_cv [.int a] [] rfl rfl rfl rfl mh_0 rfl ?_
  refine mR_ix [(0, .ref 0), (1, .int a)] rfl rfl rfl ?_
  refine mE_ildn 1 rfl rfl rfl rfl ?_
  refine mE_ico 2 0 rfl rfl rfl ?_
  refine mE_aldn 3 rfl rfl rfl rfl ?_
  refine mE_gf 6 rfl rfl mh_0 rfl rfl ?_
  refine mE_ico 7 1 rfl rfl rfl ?_
  refine mE_isub 8 (-1) rfl rfl rfl ?_
  refine mE_cs [.int a, .int 0, .int (-1)] [] rfl rfl rfl rfl rfl ?_
  refine mR_ix [(0, .int a), (1, .int 0), (2, .int (-1))] rfl rfl rfl ?_
  refine mE_ildn 1 rfl rfl rfl rfl ?_
  refine mE_ildn 2 rfl rfl rfl rfl ?_
  refine mE_ic_lt rfl (fun h11 => ?_) (fun h11 => ?_)
  ·
    have h11 : a < (0 : Int32) := h11
    refine mE_ico 15 0 rfl rfl rfl ?_
    refine mE_iret rfl ⟨rfl, ?_⟩
    refine mE_iret rfl ⟨rfl, ?_⟩
    refine mE_if_ne_f 8 rfl (by decide) rfl ?_
    refine mE_bip 10 (-9) rfl rfl rfl ?_
    refine mE_iret rfl ⟨rfl, ⟨_, mh_47⟩, ?_⟩
    refine mR_ix [(0, .ref 47), (1, .int a), (2, .int w)] rfl rfl rfl ?_
    refine mE_aldn 1 rfl rfl rfl rfl ?_
    refine mE_ildn 2 rfl rfl rfl rfl ?_
    refine mE_cv [.int a] [] rfl rfl rfl rfl mh_47 rfl ?_
    refine mR_ix [(0, .ref 47), (1, .int a)] rfl rfl rfl ?_
    refine mE_ildn 1 rfl rfl rfl rfl ?_
    refine mE_if_lt rfl (fun h12 => ?_) (fun h12 => ?_)
    ·
      have h12 : a < (0 : Int32) := h12
      refine mE_ico 17 0 rfl rfl rfl ?_
      refine mE_iret rfl ⟨rfl, ?_⟩
      refine mE_if_ne_f 8 rfl (by decide) rfl ?_
      refine mE_bip 10 (-9) rfl rfl rfl ?_
      exact mE_iret rfl ⟨rfl, _, rfl, rfl, Nat.le_of_ble_eq_true rfl, Nat.le_of_ble_eq_true rfl⟩
    ·
      have h12 : ¬ (a < (0 : Int32)) := h12
      exfalso
      simp only [Int32.not_le, Int32.not_lt, Int32.le_iff_toInt_le, Int32.lt_iff_toInt_lt, mi_m1, mi_0, mi_1, mi_2, mi_4, mi_7, mi_9, mi_19, mi_40, mi_60, mi_2000, mi_10000] at h11 h12
      all_goals omega
  ·
    have h11 : ¬ (a < (0 : Int32)) := h11
    refine mE_ildn 6 rfl rfl rfl rfl ?_
    refine mE_ildn 7 rfl rfl rfl rfl ?_
    refine mE_ic_gt rfl (fun h13 => ?_) (fun h13 => ?_)
    ·
      have h13 : (-1 : Int32) < a := h13
      refine mE_ico 15 0 rfl rfl rfl ?_
      refine mE_iret rfl ⟨rfl, ?_⟩
      refine mE_iret rfl ⟨rfl, ?_⟩
      refine mE_if_ne_f 8 rfl (by decide) rfl ?_
      refine mE_bip 10 (-9) rfl rfl rfl ?_
      refine mE_iret rfl ⟨rfl, ⟨_, mh_47⟩, ?_⟩
      refine mR_ix [(0, .ref 47), (1, .int a), (2, .int w)] rfl rfl rfl ?_
      refine mE_aldn 1 rfl rfl rfl rfl ?_
      refine mE_ildn 2 rfl rfl rfl rfl ?_
      refine mE_cv [.int a] [] rfl rfl rfl rfl mh_47 rfl ?_
      refine mR_ix [(0, .ref 47), (1, .int a)] rfl rfl rfl ?_
      refine mE_ildn 1 rfl rfl rfl rfl ?_
      refine mE_if_lt rfl (fun h14 => ?_) (fun h14 => ?_)
      ·
        have h14 : a < (0 : Int32) := h14
        exfalso
        simp only [Int32.not_le, Int32.not_lt, Int32.le_iff_toInt_le, Int32.lt_iff_toInt_lt, mi_m1, mi_0, mi_1, mi_2, mi_4, mi_7, mi_9, mi_19, mi_40, mi_60, mi_2000, mi_10000] at h11 h13 h14
        all_goals omega
      ·
        have h14 : ¬ (a < (0 : Int32)) := h14
        refine mE_ildn 5 rfl rfl rfl rfl ?_
        refine mE_aldn 6 rfl rfl rfl rfl ?_
        refine mE_gf 9 rfl rfl mh_47 rfl rfl ?_
        refine mE_ic_ge rfl (fun h15 => ?_) (fun h15 => ?_)
        ·
          have h15 : (0 : Int32) ≤ a := h15
          refine mE_ico 17 0 rfl rfl rfl ?_
          refine mE_iret rfl ⟨rfl, ?_⟩
          refine mE_if_ne_f 8 rfl (by decide) rfl ?_
          refine mE_bip 10 (-9) rfl rfl rfl ?_
          exact mE_iret rfl ⟨rfl, _, rfl, rfl, Nat.le_of_ble_eq_true rfl, Nat.le_of_ble_eq_true rfl⟩
        ·
          have h15 : ¬ ((0 : Int32) ≤ a) := h15
          exfalso
          simp only [Int32.not_le, Int32.not_lt, Int32.le_iff_toInt_le, Int32.lt_iff_toInt_lt, mi_m1, mi_0, mi_1, mi_2, mi_4, mi_7, mi_9, mi_19, mi_40, mi_60, mi_2000, mi_10000] at h11 h13 h14 h15
          all_goals omega
    ·
      have h13 : ¬ ((-1 : Int32) < a) := h13
      exfalso
      simp only [Int32.not_le, Int32.not_lt, Int32.le_iff_toInt_le, Int32.lt_iff_toInt_lt, mi_m1, mi_0, mi_1, mi_2, mi_4, mi_7, mi_9, mi_19, mi_40, mi_60, mi_2000, mi_10000] at h11 h13
      all_goals omega

set_option maxHeartbeats 4000000 in
set_option maxRecDepth 100000 in
theorem b_hold (a w : Int32)  : mBoth 66 146 [.int a, .int w] := by
  apply mBoth_of
  refine mR_ix [(0, .ref 0), (1, .int a), (2, .int w)] rfl rfl rfl ?_
  refine mE_aldn 1 rfl rfl rfl rfl ?_
  refine mE_ildn 2 rfl rfl rfl rfl ?_
  refine mE_cv [.int a] [] rfl rfl rfl rfl mh_0 rfl ?_
  refine mR_ix [(0, .ref 0), (1, .int a)] rfl rfl rfl ?_
  refine mE_ildn 1 rfl rfl rfl rfl ?_
  refine mE_ico 2 0 rfl rfl rfl ?_
  refine mE_aldn 3 rfl rfl rfl rfl ?_
  refine mE_gf 6 rfl rfl mh_0 rfl rfl ?_
  refine mE_ico 7 1 rfl rfl rfl ?_
  refine mE_isub 8 (-1) rfl rfl rfl ?_
  refine mE_cs [.int a, .int 0, .int (-1)] [] rfl rfl rfl rfl rfl ?_
  refine mR_ix [(0, .int a), (1, .int 0), (2, .int (-1))] rfl rfl rfl ?_
  refine mE_ildn 1 rfl rfl rfl rfl ?_
  refine mE_ildn 2 rfl rfl rfl rfl ?_
  refine mE_ic_lt rfl (fun h11 => ?_) (fun h11 => ?_)
  ·
    have h11 : a < (0 : Int32) := h11
    refine mE_ico 15 0 rfl rfl rfl ?_
    refine mE_iret rfl ⟨rfl, ?_⟩
    refine mE_iret rfl ⟨rfl, ?_⟩
    refine mE_if_ne_f 8 rfl (by decide) rfl ?_
    refine mE_bip 10 (-9) rfl rfl rfl ?_
    refine mE_iret rfl ⟨rfl, ⟨_, mh_47⟩, ?_⟩
    refine mR_ix [(0, .ref 47), (1, .int a), (2, .int w)] rfl rfl rfl ?_
    refine mE_aldn 1 rfl rfl rfl rfl ?_
    refine mE_ildn 2 rfl rfl rfl rfl ?_
    refine mE_cv [.int a] [] rfl rfl rfl rfl mh_47 rfl ?_
    refine mR_ix [(0, .ref 47), (1, .int a)] rfl rfl rfl ?_
    refine mE_ildn 1 rfl rfl rfl rfl ?_
    refine mE_if_lt rfl (fun h12 => ?_) (fun h12 => ?_)
    ·
      have h12 : a < (0 : Int32) := h12
      refine mE_ico 17 0 rfl rfl rfl ?_
      refine mE_iret rfl ⟨rfl, ?_⟩
      refine mE_if_ne_f 8 rfl (by decide) rfl ?_
      refine mE_bip 10 (-9) rfl rfl rfl ?_
      exact mE_iret rfl ⟨rfl, _, rfl, rfl, Nat.le_of_ble_eq_true rfl, Nat.le_of_ble_eq_true rfl⟩
    ·
      have h12 : ¬ (a < (0 : Int32)) := h12
      exfalso
      simp only [Int32.not_le, Int32.not_lt, Int32.le_iff_toInt_le, Int32.lt_iff_toInt_lt, mi_m1, mi_0, mi_1, mi_2, mi_4, mi_7, mi_9, mi_19, mi_40, mi_60, mi_2000, mi_10000] at h11 h12
      all_goals omega
  ·
    have h11 : ¬ (a < (0 : Int32)) := h11
    refine mE_ildn 6 rfl rfl rfl rfl ?_
    refine mE_ildn 7 rfl rfl rfl rfl ?_
    refine mE_ic_gt rfl (fun h13 => ?_) (fun h13 => ?_)
    ·
      have h13 : (-1 : Int32) < a := h13
      refine mE_ico 15 0 rfl rfl rfl ?_
      refine mE_iret rfl ⟨rfl, ?_⟩
      refine mE_iret rfl ⟨rfl, ?_⟩
      refine mE_if_ne_f 8 rfl (by decide) rfl ?_
      refine mE_bip 10 (-9) rfl rfl rfl ?_
      refine mE_iret rfl ⟨rfl, ⟨_, mh_47⟩, ?_⟩
      refine mR_ix [(0, .ref 47), (1, .int a), (2, .int w)] rfl rfl rfl ?_
      refine mE_aldn 1 rfl rfl rfl rfl ?_
      refine mE_ildn 2 rfl rfl rfl rfl ?_
      refine mE_cv [.int a] [] rfl rfl rfl rfl mh_47 rfl ?_
      refine mR_ix [(0, .ref 47), (1, .int a)] rfl rfl rfl ?_
      refine mE_ildn 1 rfl rfl rfl rfl ?_
      refine mE_if_lt rfl (fun h14 => ?_) (fun h14 => ?_)
      ·
        have h14 : a < (0 : Int32) := h14
        exfalso
        simp only [Int32.not_le, Int32.not_lt, Int32.le_iff_toInt_le, Int32.lt_iff_toInt_lt, mi_m1, mi_0, mi_1, mi_2, mi_4, mi_7, mi_9, mi_19, mi_40, mi_60, mi_2000, mi_10000] at h11 h13 h14
        all_goals omega
      ·
        have h14 : ¬ (a < (0 : Int32)) := h14
        refine mE_ildn 5 rfl rfl rfl rfl ?_
        refine mE_aldn 6 rfl rfl rfl rfl ?_
        refine mE_gf 9 rfl rfl mh_47 rfl rfl ?_
        refine mE_ic_ge rfl (fun h15 => ?_) (fun h15 => ?_)
        ·
          have h15 : (0 : Int32) ≤ a := h15
          refine mE_ico 17 0 rfl rfl rfl ?_
          refine mE_iret rfl ⟨rfl, ?_⟩
          refine mE_if_ne_f 8 rfl (by decide) rfl ?_
          refine mE_bip 10 (-9) rfl rfl rfl ?_
          exact mE_iret rfl ⟨rfl, _, rfl, rfl, Nat.le_of_ble_eq_true rfl, Nat.le_of_ble_eq_true rfl⟩
        ·
          have h15 : ¬ ((0 : Int32) ≤ a) := h15
          exfalso
          simp only [Int32.not_le, Int32.not_lt, Int32.le_iff_toInt_le, Int32.lt_iff_toInt_lt, mi_m1, mi_0, mi_1, mi_2, mi_4, mi_7, mi_9, mi_19, mi_40, mi_60, mi_2000, mi_10000] at h11 h13 h14 h15
          all_goals omega
    ·
      have h13 : ¬ ((-1 : Int32) < a) := h13
      exfalso
      simp only [Int32.not_le, Int32.not_lt, Int32.le_iff_toInt_le, Int32.lt_iff_toInt_lt, mi_m1, mi_0, mi_1, mi_2, mi_4, mi_7, mi_9, mi_19, mi_40, mi_60, mi_2000, mi_10000] at h11 h13
      all_goals omega

set_option maxHeartbeats 4000000 in
set_option maxRecDepth 100000 in
theorem b_hunger (a : Int32)  : mBoth 67 147 [.int a] := by
  apply mBoth_of
  refine mR_ix [(0, .ref 0), (1, .int a)] rfl rfl rfl ?_
  refine mE_aldn 1 rfl rfl rfl rfl ?_
  refine mE_ildn 2 rfl rfl rfl rfl ?_
  refine mE_cv [.int a] [] rfl rfl rfl rfl mh_0 rfl ?_
  refine mR_ix [(0, .ref 0), (1, .int a)] rfl rfl rfl ?_
  refine mE_ildn 1 rfl rfl rfl rfl ?_
  refine mE_ico 2 0 rfl rfl rfl ?_
  refine mE_aldn 3 rfl rfl rfl rfl ?_
  refine mE_gf 6 rfl rfl mh_0 rfl rfl ?_
  refine mE_ico 7 1 rfl rfl rfl ?_
  refine mE_isub 8 (-1) rfl rfl rfl ?_
  refine mE_cs [.int a, .int 0, .int (-1)] [] rfl rfl rfl rfl rfl ?_
  refine mR_ix [(0, .int a), (1, .int 0), (2, .int (-1))] rfl rfl rfl ?_
  refine mE_ildn 1 rfl rfl rfl rfl ?_
  refine mE_ildn 2 rfl rfl rfl rfl ?_
  refine mE_ic_lt rfl (fun h11 => ?_) (fun h11 => ?_)
  ·
    have h11 : a < (0 : Int32) := h11
    refine mE_ico 15 0 rfl rfl rfl ?_
    refine mE_iret rfl ⟨rfl, ?_⟩
    refine mE_iret rfl ⟨rfl, ?_⟩
    refine mE_if_ne_f 8 rfl (by decide) rfl ?_
    refine mE_bip 10 (-9) rfl rfl rfl ?_
    refine mE_iret rfl ⟨rfl, ⟨_, mh_47⟩, ?_⟩
    refine mR_ix [(0, .ref 47), (1, .int a)] rfl rfl rfl ?_
    refine mE_aldn 1 rfl rfl rfl rfl ?_
    refine mE_ildn 2 rfl rfl rfl rfl ?_
    refine mE_cv [.int a] [] rfl rfl rfl rfl mh_47 rfl ?_
    refine mR_ix [(0, .ref 47), (1, .int a)] rfl rfl rfl ?_
    refine mE_ildn 1 rfl rfl rfl rfl ?_
    refine mE_if_lt rfl (fun h12 => ?_) (fun h12 => ?_)
    ·
      have h12 : a < (0 : Int32) := h12
      refine mE_ico 17 0 rfl rfl rfl ?_
      refine mE_iret rfl ⟨rfl, ?_⟩
      refine mE_if_ne_f 8 rfl (by decide) rfl ?_
      refine mE_bip 10 (-9) rfl rfl rfl ?_
      refine mE_goto 40 rfl rfl ?_
      exact mE_iret rfl ⟨rfl, _, rfl, rfl, Nat.le_of_ble_eq_true rfl, Nat.le_of_ble_eq_true rfl⟩
    ·
      have h12 : ¬ (a < (0 : Int32)) := h12
      exfalso
      simp only [Int32.not_le, Int32.not_lt, Int32.le_iff_toInt_le, Int32.lt_iff_toInt_lt, mi_m1, mi_0, mi_1, mi_2, mi_4, mi_7, mi_9, mi_19, mi_40, mi_60, mi_2000, mi_10000] at h11 h12
      all_goals omega
  ·
    have h11 : ¬ (a < (0 : Int32)) := h11
    refine mE_ildn 6 rfl rfl rfl rfl ?_
    refine mE_ildn 7 rfl rfl rfl rfl ?_
    refine mE_ic_gt rfl (fun h13 => ?_) (fun h13 => ?_)
    ·
      have h13 : (-1 : Int32) < a := h13
      refine mE_ico 15 0 rfl rfl rfl ?_
      refine mE_iret rfl ⟨rfl, ?_⟩
      refine mE_iret rfl ⟨rfl, ?_⟩
      refine mE_if_ne_f 8 rfl (by decide) rfl ?_
      refine mE_bip 10 (-9) rfl rfl rfl ?_
      refine mE_iret rfl ⟨rfl, ⟨_, mh_47⟩, ?_⟩
      refine mR_ix [(0, .ref 47), (1, .int a)] rfl rfl rfl ?_
      refine mE_aldn 1 rfl rfl rfl rfl ?_
      refine mE_ildn 2 rfl rfl rfl rfl ?_
      refine mE_cv [.int a] [] rfl rfl rfl rfl mh_47 rfl ?_
      refine mR_ix [(0, .ref 47), (1, .int a)] rfl rfl rfl ?_
      refine mE_ildn 1 rfl rfl rfl rfl ?_
      refine mE_if_lt rfl (fun h14 => ?_) (fun h14 => ?_)
      ·
        have h14 : a < (0 : Int32) := h14
        exfalso
        simp only [Int32.not_le, Int32.not_lt, Int32.le_iff_toInt_le, Int32.lt_iff_toInt_lt, mi_m1, mi_0, mi_1, mi_2, mi_4, mi_7, mi_9, mi_19, mi_40, mi_60, mi_2000, mi_10000] at h11 h13 h14
        all_goals omega
      ·
        have h14 : ¬ (a < (0 : Int32)) := h14
        refine mE_ildn 5 rfl rfl rfl rfl ?_
        refine mE_aldn 6 rfl rfl rfl rfl ?_
        refine mE_gf 9 rfl rfl mh_47 rfl rfl ?_
        refine mE_ic_ge rfl (fun h15 => ?_) (fun h15 => ?_)
        ·
          have h15 : (0 : Int32) ≤ a := h15
          refine mE_ico 17 0 rfl rfl rfl ?_
          refine mE_iret rfl ⟨rfl, ?_⟩
          refine mE_if_ne_f 8 rfl (by decide) rfl ?_
          refine mE_bip 10 (-9) rfl rfl rfl ?_
          refine mE_goto 40 rfl rfl ?_
          exact mE_iret rfl ⟨rfl, _, rfl, rfl, Nat.le_of_ble_eq_true rfl, Nat.le_of_ble_eq_true rfl⟩
        ·
          have h15 : ¬ ((0 : Int32) ≤ a) := h15
          exfalso
          simp only [Int32.not_le, Int32.not_lt, Int32.le_iff_toInt_le, Int32.lt_iff_toInt_lt, mi_m1, mi_0, mi_1, mi_2, mi_4, mi_7, mi_9, mi_19, mi_40, mi_60, mi_2000, mi_10000] at h11 h13 h14 h15
          all_goals omega
    ·
      have h13 : ¬ ((-1 : Int32) < a) := h13
      exfalso
      simp only [Int32.not_le, Int32.not_lt, Int32.le_iff_toInt_le, Int32.lt_iff_toInt_lt, mi_m1, mi_0, mi_1, mi_2, mi_4, mi_7, mi_9, mi_19, mi_40, mi_60, mi_2000, mi_10000] at h11 h13
      all_goals omega

set_option maxHeartbeats 4000000 in
set_option maxRecDepth 100000 in
theorem b_law (k a e : Int32)  : mBoth 71 126 [.int k, .int a, .int e] := by
  apply mBoth_of
  refine mR_ix [(0, .ref 0), (1, .int k), (2, .int a), (3, .int e)] rfl rfl rfl ?_
  refine mE_ildn 1 rfl rfl rfl rfl ?_
  refine mE_ico 2 0 rfl rfl rfl ?_
  refine mE_ico 3 2 rfl rfl rfl ?_
  refine mE_cs [.int k, .int 0, .int 2] [] rfl rfl rfl rfl rfl ?_
  refine mR_ix [(0, .int k), (1, .int 0), (2, .int 2)] rfl rfl rfl ?_
  refine mE_ildn 1 rfl rfl rfl rfl ?_
  refine mE_ildn 2 rfl rfl rfl rfl ?_
  refine mE_ic_lt rfl (fun h11 => ?_) (fun h11 => ?_)
  ·
    have h11 : k < (0 : Int32) := h11
    refine mE_ico 15 0 rfl rfl rfl ?_
    refine mE_iret rfl ⟨rfl, ?_⟩
    refine mE_if_eq_t 25 rfl (by decide) rfl ?_
    refine mE_ldci 27 (-2000000000) rfl rfl rfl rfl ?_
    refine mE_iret rfl ⟨rfl, ⟨_, mh_47⟩, ?_⟩
    refine mR_ix [(0, .ref 47), (1, .int k), (2, .int a), (3, .int e)] rfl rfl rfl ?_
    refine mE_ildn 1 rfl rfl rfl rfl ?_
    refine mE_ico 2 0 rfl rfl rfl ?_
    refine mE_ico 3 2 rfl rfl rfl ?_
    refine mE_cs [.int k, .int 0, .int 2] [] rfl rfl rfl rfl rfl ?_
    refine mR_ix [(0, .int k), (1, .int 0), (2, .int 2)] rfl rfl rfl ?_
    refine mE_ildn 1 rfl rfl rfl rfl ?_
    refine mE_ildn 2 rfl rfl rfl rfl ?_
    refine mE_ic_lt rfl (fun h12 => ?_) (fun h12 => ?_)
    ·
      have h12 : k < (0 : Int32) := h12
      refine mE_ico 15 0 rfl rfl rfl ?_
      refine mE_iret rfl ⟨rfl, ?_⟩
      refine mE_if_eq_t 35 rfl (by decide) rfl ?_
      refine mE_ldci 37 (-2000000000) rfl rfl rfl rfl ?_
      exact mE_iret rfl ⟨rfl, _, rfl, rfl, Nat.le_of_ble_eq_true rfl, Nat.le_of_ble_eq_true rfl⟩
    ·
      have h12 : ¬ (k < (0 : Int32)) := h12
      exfalso
      simp only [Int32.not_le, Int32.not_lt, Int32.le_iff_toInt_le, Int32.lt_iff_toInt_lt, mi_m1, mi_0, mi_1, mi_2, mi_4, mi_7, mi_9, mi_19, mi_40, mi_60, mi_2000, mi_10000] at h11 h12
      all_goals omega
  ·
    have h11 : ¬ (k < (0 : Int32)) := h11
    refine mE_ildn 6 rfl rfl rfl rfl ?_
    refine mE_ildn 7 rfl rfl rfl rfl ?_
    refine mE_ic_gt rfl (fun h13 => ?_) (fun h13 => ?_)
    ·
      have h13 : (2 : Int32) < k := h13
      refine mE_ico 15 0 rfl rfl rfl ?_
      refine mE_iret rfl ⟨rfl, ?_⟩
      refine mE_if_eq_t 25 rfl (by decide) rfl ?_
      refine mE_ldci 27 (-2000000000) rfl rfl rfl rfl ?_
      refine mE_iret rfl ⟨rfl, ⟨_, mh_47⟩, ?_⟩
      refine mR_ix [(0, .ref 47), (1, .int k), (2, .int a), (3, .int e)] rfl rfl rfl ?_
      refine mE_ildn 1 rfl rfl rfl rfl ?_
      refine mE_ico 2 0 rfl rfl rfl ?_
      refine mE_ico 3 2 rfl rfl rfl ?_
      refine mE_cs [.int k, .int 0, .int 2] [] rfl rfl rfl rfl rfl ?_
      refine mR_ix [(0, .int k), (1, .int 0), (2, .int 2)] rfl rfl rfl ?_
      refine mE_ildn 1 rfl rfl rfl rfl ?_
      refine mE_ildn 2 rfl rfl rfl rfl ?_
      refine mE_ic_lt rfl (fun h14 => ?_) (fun h14 => ?_)
      ·
        have h14 : k < (0 : Int32) := h14
        exfalso
        simp only [Int32.not_le, Int32.not_lt, Int32.le_iff_toInt_le, Int32.lt_iff_toInt_lt, mi_m1, mi_0, mi_1, mi_2, mi_4, mi_7, mi_9, mi_19, mi_40, mi_60, mi_2000, mi_10000] at h11 h13 h14
        all_goals omega
      ·
        have h14 : ¬ (k < (0 : Int32)) := h14
        refine mE_ildn 6 rfl rfl rfl rfl ?_
        refine mE_ildn 7 rfl rfl rfl rfl ?_
        refine mE_ic_gt rfl (fun h15 => ?_) (fun h15 => ?_)
        ·
          have h15 : (2 : Int32) < k := h15
          refine mE_ico 15 0 rfl rfl rfl ?_
          refine mE_iret rfl ⟨rfl, ?_⟩
          refine mE_if_eq_t 35 rfl (by decide) rfl ?_
          refine mE_ldci 37 (-2000000000) rfl rfl rfl rfl ?_
          exact mE_iret rfl ⟨rfl, _, rfl, rfl, Nat.le_of_ble_eq_true rfl, Nat.le_of_ble_eq_true rfl⟩
        ·
          have h15 : ¬ ((2 : Int32) < k) := h15
          exfalso
          simp only [Int32.not_le, Int32.not_lt, Int32.le_iff_toInt_le, Int32.lt_iff_toInt_lt, mi_m1, mi_0, mi_1, mi_2, mi_4, mi_7, mi_9, mi_19, mi_40, mi_60, mi_2000, mi_10000] at h11 h13 h14 h15
          all_goals omega
    ·
      have h13 : ¬ ((2 : Int32) < k) := h13
      refine mE_ico 11 1 rfl rfl rfl ?_
      refine mE_goto 15 rfl rfl ?_
      refine mE_iret rfl ⟨rfl, ?_⟩
      refine mE_if_eq_f 9 rfl (by decide) rfl ?_
      refine mE_aldn 10 rfl rfl rfl rfl ?_
      refine mE_ildn 11 rfl rfl rfl rfl ?_
      refine mE_cv [.int a] [] rfl rfl rfl rfl mh_0 rfl ?_
      refine mR_ix [(0, .ref 0), (1, .int a)] rfl rfl rfl ?_
      refine mE_ildn 1 rfl rfl rfl rfl ?_
      refine mE_ico 2 0 rfl rfl rfl ?_
      refine mE_aldn 3 rfl rfl rfl rfl ?_
      refine mE_gf 6 rfl rfl mh_0 rfl rfl ?_
      refine mE_ico 7 1 rfl rfl rfl ?_
      refine mE_isub 8 (-1) rfl rfl rfl ?_
      refine mE_cs [.int a, .int 0, .int (-1)] [] rfl rfl rfl rfl rfl ?_
      refine mR_ix [(0, .int a), (1, .int 0), (2, .int (-1))] rfl rfl rfl ?_
      refine mE_ildn 1 rfl rfl rfl rfl ?_
      refine mE_ildn 2 rfl rfl rfl rfl ?_
      refine mE_ic_lt rfl (fun h16 => ?_) (fun h16 => ?_)
      ·
        have h16 : a < (0 : Int32) := h16
        refine mE_ico 15 0 rfl rfl rfl ?_
        refine mE_iret rfl ⟨rfl, ?_⟩
        refine mE_iret rfl ⟨rfl, ?_⟩
        refine mE_if_eq_t 25 rfl (by decide) rfl ?_
        refine mE_ldci 27 (-2000000000) rfl rfl rfl rfl ?_
        refine mE_iret rfl ⟨rfl, ⟨_, mh_47⟩, ?_⟩
        refine mR_ix [(0, .ref 47), (1, .int k), (2, .int a), (3, .int e)] rfl rfl rfl ?_
        refine mE_ildn 1 rfl rfl rfl rfl ?_
        refine mE_ico 2 0 rfl rfl rfl ?_
        refine mE_ico 3 2 rfl rfl rfl ?_
        refine mE_cs [.int k, .int 0, .int 2] [] rfl rfl rfl rfl rfl ?_
        refine mR_ix [(0, .int k), (1, .int 0), (2, .int 2)] rfl rfl rfl ?_
        refine mE_ildn 1 rfl rfl rfl rfl ?_
        refine mE_ildn 2 rfl rfl rfl rfl ?_
        refine mE_ic_lt rfl (fun h17 => ?_) (fun h17 => ?_)
        ·
          have h17 : k < (0 : Int32) := h17
          exfalso
          simp only [Int32.not_le, Int32.not_lt, Int32.le_iff_toInt_le, Int32.lt_iff_toInt_lt, mi_m1, mi_0, mi_1, mi_2, mi_4, mi_7, mi_9, mi_19, mi_40, mi_60, mi_2000, mi_10000] at h11 h13 h17
          all_goals omega
        ·
          have h17 : ¬ (k < (0 : Int32)) := h17
          refine mE_ildn 6 rfl rfl rfl rfl ?_
          refine mE_ildn 7 rfl rfl rfl rfl ?_
          refine mE_ic_gt rfl (fun h18 => ?_) (fun h18 => ?_)
          ·
            have h18 : (2 : Int32) < k := h18
            exfalso
            simp only [Int32.not_le, Int32.not_lt, Int32.le_iff_toInt_le, Int32.lt_iff_toInt_lt, mi_m1, mi_0, mi_1, mi_2, mi_4, mi_7, mi_9, mi_19, mi_40, mi_60, mi_2000, mi_10000] at h11 h13 h17 h18
            all_goals omega
          ·
            have h18 : ¬ ((2 : Int32) < k) := h18
            refine mE_ico 11 1 rfl rfl rfl ?_
            refine mE_goto 15 rfl rfl ?_
            refine mE_iret rfl ⟨rfl, ?_⟩
            refine mE_if_eq_f 9 rfl (by decide) rfl ?_
            refine mE_aldn 10 rfl rfl rfl rfl ?_
            refine mE_ildn 11 rfl rfl rfl rfl ?_
            refine mE_cv [.int a] [] rfl rfl rfl rfl mh_47 rfl ?_
            refine mR_ix [(0, .ref 47), (1, .int a)] rfl rfl rfl ?_
            refine mE_ildn 1 rfl rfl rfl rfl ?_
            refine mE_if_lt rfl (fun h19 => ?_) (fun h19 => ?_)
            ·
              have h19 : a < (0 : Int32) := h19
              refine mE_ico 17 0 rfl rfl rfl ?_
              refine mE_iret rfl ⟨rfl, ?_⟩
              refine mE_if_eq_t 35 rfl (by decide) rfl ?_
              refine mE_ldci 37 (-2000000000) rfl rfl rfl rfl ?_
              exact mE_iret rfl ⟨rfl, _, rfl, rfl, Nat.le_of_ble_eq_true rfl, Nat.le_of_ble_eq_true rfl⟩
            ·
              have h19 : ¬ (a < (0 : Int32)) := h19
              exfalso
              simp only [Int32.not_le, Int32.not_lt, Int32.le_iff_toInt_le, Int32.lt_iff_toInt_lt, mi_m1, mi_0, mi_1, mi_2, mi_4, mi_7, mi_9, mi_19, mi_40, mi_60, mi_2000, mi_10000] at h16 h19
              all_goals omega
      ·
        have h16 : ¬ (a < (0 : Int32)) := h16
        refine mE_ildn 6 rfl rfl rfl rfl ?_
        refine mE_ildn 7 rfl rfl rfl rfl ?_
        refine mE_ic_gt rfl (fun h20 => ?_) (fun h20 => ?_)
        ·
          have h20 : (-1 : Int32) < a := h20
          refine mE_ico 15 0 rfl rfl rfl ?_
          refine mE_iret rfl ⟨rfl, ?_⟩
          refine mE_iret rfl ⟨rfl, ?_⟩
          refine mE_if_eq_t 25 rfl (by decide) rfl ?_
          refine mE_ldci 27 (-2000000000) rfl rfl rfl rfl ?_
          refine mE_iret rfl ⟨rfl, ⟨_, mh_47⟩, ?_⟩
          refine mR_ix [(0, .ref 47), (1, .int k), (2, .int a), (3, .int e)] rfl rfl rfl ?_
          refine mE_ildn 1 rfl rfl rfl rfl ?_
          refine mE_ico 2 0 rfl rfl rfl ?_
          refine mE_ico 3 2 rfl rfl rfl ?_
          refine mE_cs [.int k, .int 0, .int 2] [] rfl rfl rfl rfl rfl ?_
          refine mR_ix [(0, .int k), (1, .int 0), (2, .int 2)] rfl rfl rfl ?_
          refine mE_ildn 1 rfl rfl rfl rfl ?_
          refine mE_ildn 2 rfl rfl rfl rfl ?_
          refine mE_ic_lt rfl (fun h21 => ?_) (fun h21 => ?_)
          ·
            have h21 : k < (0 : Int32) := h21
            exfalso
            simp only [Int32.not_le, Int32.not_lt, Int32.le_iff_toInt_le, Int32.lt_iff_toInt_lt, mi_m1, mi_0, mi_1, mi_2, mi_4, mi_7, mi_9, mi_19, mi_40, mi_60, mi_2000, mi_10000] at h11 h13 h21
            all_goals omega
          ·
            have h21 : ¬ (k < (0 : Int32)) := h21
            refine mE_ildn 6 rfl rfl rfl rfl ?_
            refine mE_ildn 7 rfl rfl rfl rfl ?_
            refine mE_ic_gt rfl (fun h22 => ?_) (fun h22 => ?_)
            ·
              have h22 : (2 : Int32) < k := h22
              exfalso
              simp only [Int32.not_le, Int32.not_lt, Int32.le_iff_toInt_le, Int32.lt_iff_toInt_lt, mi_m1, mi_0, mi_1, mi_2, mi_4, mi_7, mi_9, mi_19, mi_40, mi_60, mi_2000, mi_10000] at h11 h13 h21 h22
              all_goals omega
            ·
              have h22 : ¬ ((2 : Int32) < k) := h22
              refine mE_ico 11 1 rfl rfl rfl ?_
              refine mE_goto 15 rfl rfl ?_
              refine mE_iret rfl ⟨rfl, ?_⟩
              refine mE_if_eq_f 9 rfl (by decide) rfl ?_
              refine mE_aldn 10 rfl rfl rfl rfl ?_
              refine mE_ildn 11 rfl rfl rfl rfl ?_
              refine mE_cv [.int a] [] rfl rfl rfl rfl mh_47 rfl ?_
              refine mR_ix [(0, .ref 47), (1, .int a)] rfl rfl rfl ?_
              refine mE_ildn 1 rfl rfl rfl rfl ?_
              refine mE_if_lt rfl (fun h23 => ?_) (fun h23 => ?_)
              ·
                have h23 : a < (0 : Int32) := h23
                exfalso
                simp only [Int32.not_le, Int32.not_lt, Int32.le_iff_toInt_le, Int32.lt_iff_toInt_lt, mi_m1, mi_0, mi_1, mi_2, mi_4, mi_7, mi_9, mi_19, mi_40, mi_60, mi_2000, mi_10000] at h16 h20 h23
                all_goals omega
              ·
                have h23 : ¬ (a < (0 : Int32)) := h23
                refine mE_ildn 5 rfl rfl rfl rfl ?_
                refine mE_aldn 6 rfl rfl rfl rfl ?_
                refine mE_gf 9 rfl rfl mh_47 rfl rfl ?_
                refine mE_ic_ge rfl (fun h24 => ?_) (fun h24 => ?_)
                ·
                  have h24 : (0 : Int32) ≤ a := h24
                  refine mE_ico 17 0 rfl rfl rfl ?_
                  refine mE_iret rfl ⟨rfl, ?_⟩
                  refine mE_if_eq_t 35 rfl (by decide) rfl ?_
                  refine mE_ldci 37 (-2000000000) rfl rfl rfl rfl ?_
                  exact mE_iret rfl ⟨rfl, _, rfl, rfl, Nat.le_of_ble_eq_true rfl, Nat.le_of_ble_eq_true rfl⟩
                ·
                  have h24 : ¬ ((0 : Int32) ≤ a) := h24
                  exfalso
                  simp only [Int32.not_le, Int32.not_lt, Int32.le_iff_toInt_le, Int32.lt_iff_toInt_lt, mi_m1, mi_0, mi_1, mi_2, mi_4, mi_7, mi_9, mi_19, mi_40, mi_60, mi_2000, mi_10000] at h16 h20 h23 h24
                  all_goals omega
        ·
          have h20 : ¬ ((-1 : Int32) < a) := h20
          exfalso
          simp only [Int32.not_le, Int32.not_lt, Int32.le_iff_toInt_le, Int32.lt_iff_toInt_lt, mi_m1, mi_0, mi_1, mi_2, mi_4, mi_7, mi_9, mi_19, mi_40, mi_60, mi_2000, mi_10000] at h16 h20
          all_goals omega

set_option maxHeartbeats 4000000 in
set_option maxRecDepth 100000 in
theorem b_stray (a e : Int32)  : mBoth 73 148 [.int a, .int e] := by
  apply mBoth_of
  refine mR_ix [(0, .ref 0), (1, .int a), (2, .int e)] rfl rfl rfl ?_
  refine mE_aldn 1 rfl rfl rfl rfl ?_
  refine mE_ildn 2 rfl rfl rfl rfl ?_
  refine mE_cv [.int a] [] rfl rfl rfl rfl mh_0 rfl ?_
  refine mR_ix [(0, .ref 0), (1, .int a)] rfl rfl rfl ?_
  refine mE_ildn 1 rfl rfl rfl rfl ?_
  refine mE_ico 2 0 rfl rfl rfl ?_
  refine mE_aldn 3 rfl rfl rfl rfl ?_
  refine mE_gf 6 rfl rfl mh_0 rfl rfl ?_
  refine mE_ico 7 1 rfl rfl rfl ?_
  refine mE_isub 8 (-1) rfl rfl rfl ?_
  refine mE_cs [.int a, .int 0, .int (-1)] [] rfl rfl rfl rfl rfl ?_
  refine mR_ix [(0, .int a), (1, .int 0), (2, .int (-1))] rfl rfl rfl ?_
  refine mE_ildn 1 rfl rfl rfl rfl ?_
  refine mE_ildn 2 rfl rfl rfl rfl ?_
  refine mE_ic_lt rfl (fun h11 => ?_) (fun h11 => ?_)
  ·
    have h11 : a < (0 : Int32) := h11
    refine mE_ico 15 0 rfl rfl rfl ?_
    refine mE_iret rfl ⟨rfl, ?_⟩
    refine mE_iret rfl ⟨rfl, ?_⟩
    refine mE_if_eq_t 16 rfl (by decide) rfl ?_
    refine mE_ico 17 (-1) rfl rfl rfl ?_
    refine mE_iret rfl ⟨rfl, ⟨_, mh_47⟩, ?_⟩
    refine mR_ix [(0, .ref 47), (1, .int a), (2, .int e)] rfl rfl rfl ?_
    refine mE_aldn 1 rfl rfl rfl rfl ?_
    refine mE_ildn 2 rfl rfl rfl rfl ?_
    refine mE_cv [.int a] [] rfl rfl rfl rfl mh_47 rfl ?_
    refine mR_ix [(0, .ref 47), (1, .int a)] rfl rfl rfl ?_
    refine mE_ildn 1 rfl rfl rfl rfl ?_
    refine mE_if_lt rfl (fun h12 => ?_) (fun h12 => ?_)
    ·
      have h12 : a < (0 : Int32) := h12
      refine mE_ico 17 0 rfl rfl rfl ?_
      refine mE_iret rfl ⟨rfl, ?_⟩
      refine mE_if_eq_t 16 rfl (by decide) rfl ?_
      refine mE_ico 17 (-1) rfl rfl rfl ?_
      exact mE_iret rfl ⟨rfl, _, rfl, rfl, Nat.le_of_ble_eq_true rfl, Nat.le_of_ble_eq_true rfl⟩
    ·
      have h12 : ¬ (a < (0 : Int32)) := h12
      exfalso
      simp only [Int32.not_le, Int32.not_lt, Int32.le_iff_toInt_le, Int32.lt_iff_toInt_lt, mi_m1, mi_0, mi_1, mi_2, mi_4, mi_7, mi_9, mi_19, mi_40, mi_60, mi_2000, mi_10000] at h11 h12
      all_goals omega
  ·
    have h11 : ¬ (a < (0 : Int32)) := h11
    refine mE_ildn 6 rfl rfl rfl rfl ?_
    refine mE_ildn 7 rfl rfl rfl rfl ?_
    refine mE_ic_gt rfl (fun h13 => ?_) (fun h13 => ?_)
    ·
      have h13 : (-1 : Int32) < a := h13
      refine mE_ico 15 0 rfl rfl rfl ?_
      refine mE_iret rfl ⟨rfl, ?_⟩
      refine mE_iret rfl ⟨rfl, ?_⟩
      refine mE_if_eq_t 16 rfl (by decide) rfl ?_
      refine mE_ico 17 (-1) rfl rfl rfl ?_
      refine mE_iret rfl ⟨rfl, ⟨_, mh_47⟩, ?_⟩
      refine mR_ix [(0, .ref 47), (1, .int a), (2, .int e)] rfl rfl rfl ?_
      refine mE_aldn 1 rfl rfl rfl rfl ?_
      refine mE_ildn 2 rfl rfl rfl rfl ?_
      refine mE_cv [.int a] [] rfl rfl rfl rfl mh_47 rfl ?_
      refine mR_ix [(0, .ref 47), (1, .int a)] rfl rfl rfl ?_
      refine mE_ildn 1 rfl rfl rfl rfl ?_
      refine mE_if_lt rfl (fun h14 => ?_) (fun h14 => ?_)
      ·
        have h14 : a < (0 : Int32) := h14
        exfalso
        simp only [Int32.not_le, Int32.not_lt, Int32.le_iff_toInt_le, Int32.lt_iff_toInt_lt, mi_m1, mi_0, mi_1, mi_2, mi_4, mi_7, mi_9, mi_19, mi_40, mi_60, mi_2000, mi_10000] at h11 h13 h14
        all_goals omega
      ·
        have h14 : ¬ (a < (0 : Int32)) := h14
        refine mE_ildn 5 rfl rfl rfl rfl ?_
        refine mE_aldn 6 rfl rfl rfl rfl ?_
        refine mE_gf 9 rfl rfl mh_47 rfl rfl ?_
        refine mE_ic_ge rfl (fun h15 => ?_) (fun h15 => ?_)
        ·
          have h15 : (0 : Int32) ≤ a := h15
          refine mE_ico 17 0 rfl rfl rfl ?_
          refine mE_iret rfl ⟨rfl, ?_⟩
          refine mE_if_eq_t 16 rfl (by decide) rfl ?_
          refine mE_ico 17 (-1) rfl rfl rfl ?_
          exact mE_iret rfl ⟨rfl, _, rfl, rfl, Nat.le_of_ble_eq_true rfl, Nat.le_of_ble_eq_true rfl⟩
        ·
          have h15 : ¬ ((0 : Int32) ≤ a) := h15
          exfalso
          simp only [Int32.not_le, Int32.not_lt, Int32.le_iff_toInt_le, Int32.lt_iff_toInt_lt, mi_m1, mi_0, mi_1, mi_2, mi_4, mi_7, mi_9, mi_19, mi_40, mi_60, mi_2000, mi_10000] at h11 h13 h14 h15
          all_goals omega
    ·
      have h13 : ¬ ((-1 : Int32) < a) := h13
      exfalso
      simp only [Int32.not_le, Int32.not_lt, Int32.le_iff_toInt_le, Int32.lt_iff_toInt_lt, mi_m1, mi_0, mi_1, mi_2, mi_4, mi_7, mi_9, mi_19, mi_40, mi_60, mi_2000, mi_10000] at h11 h13
      all_goals omega

set_option maxHeartbeats 4000000 in
set_option maxRecDepth 100000 in
theorem b_book (i w : Int32)  : mBoth 74 149 [.int i, .int w] := by
  apply mBoth_of
  refine mR_ix [(0, .ref 0), (1, .int i), (2, .int w)] rfl rfl rfl ?_
  refine mE_ildn 1 rfl rfl rfl rfl ?_
  refine mE_ico 2 0 rfl rfl rfl ?_
  refine mE_aldn 3 rfl rfl rfl rfl ?_
  refine mE_gf 6 rfl rfl mh_0 rfl rfl ?_
  refine mE_cv [] [.int 0, .int i] rfl rfl rfl rfl mh_16 rfl ?_
  refine mR_ix [(0, .ref 16)] rfl rfl rfl ?_
  refine mE_aldn 1 rfl rfl rfl rfl ?_
  refine mE_gf 4 rfl rfl mh_16 rfl rfl ?_
  refine mE_sip 7 200 rfl rfl rfl ?_
  refine mE_min 10 0 rfl rfl rfl rfl rfl ?_
  refine mE_iret rfl ⟨rfl, ?_⟩
  refine mE_ico 10 1 rfl rfl rfl ?_
  refine mE_isub 11 (-1) rfl rfl rfl ?_
  refine mE_cs [.int i, .int 0, .int (-1)] [] rfl rfl rfl rfl rfl ?_
  refine mR_ix [(0, .int i), (1, .int 0), (2, .int (-1))] rfl rfl rfl ?_
  refine mE_ildn 1 rfl rfl rfl rfl ?_
  refine mE_ildn 2 rfl rfl rfl rfl ?_
  refine mE_ic_lt rfl (fun h11 => ?_) (fun h11 => ?_)
  ·
    have h11 : i < (0 : Int32) := h11
    refine mE_ico 15 0 rfl rfl rfl ?_
    refine mE_iret rfl ⟨rfl, ?_⟩
    refine mE_if_eq_t 26 rfl (by decide) rfl ?_
    refine mE_ico 27 (-1) rfl rfl rfl ?_
    refine mE_iret rfl ⟨rfl, ⟨_, mh_47⟩, ?_⟩
    refine mR_ix [(0, .ref 47), (1, .int i), (2, .int w)] rfl rfl rfl ?_
    refine mE_ildn 1 rfl rfl rfl rfl ?_
    refine mE_if_lt rfl (fun h12 => ?_) (fun h12 => ?_)
    ·
      have h12 : i < (0 : Int32) := h12
      refine mE_ico 20 (-1) rfl rfl rfl ?_
      exact mE_iret rfl ⟨rfl, _, rfl, rfl, Nat.le_of_ble_eq_true rfl, Nat.le_of_ble_eq_true rfl⟩
    ·
      have h12 : ¬ (i < (0 : Int32)) := h12
      exfalso
      simp only [Int32.not_le, Int32.not_lt, Int32.le_iff_toInt_le, Int32.lt_iff_toInt_lt, mi_m1, mi_0, mi_1, mi_2, mi_4, mi_7, mi_9, mi_19, mi_40, mi_60, mi_2000, mi_10000] at h11 h12
      all_goals omega
  ·
    have h11 : ¬ (i < (0 : Int32)) := h11
    refine mE_ildn 6 rfl rfl rfl rfl ?_
    refine mE_ildn 7 rfl rfl rfl rfl ?_
    refine mE_ic_gt rfl (fun h13 => ?_) (fun h13 => ?_)
    ·
      have h13 : (-1 : Int32) < i := h13
      refine mE_ico 15 0 rfl rfl rfl ?_
      refine mE_iret rfl ⟨rfl, ?_⟩
      refine mE_if_eq_t 26 rfl (by decide) rfl ?_
      refine mE_ico 27 (-1) rfl rfl rfl ?_
      refine mE_iret rfl ⟨rfl, ⟨_, mh_47⟩, ?_⟩
      refine mR_ix [(0, .ref 47), (1, .int i), (2, .int w)] rfl rfl rfl ?_
      refine mE_ildn 1 rfl rfl rfl rfl ?_
      refine mE_if_lt rfl (fun h14 => ?_) (fun h14 => ?_)
      ·
        have h14 : i < (0 : Int32) := h14
        exfalso
        simp only [Int32.not_le, Int32.not_lt, Int32.le_iff_toInt_le, Int32.lt_iff_toInt_lt, mi_m1, mi_0, mi_1, mi_2, mi_4, mi_7, mi_9, mi_19, mi_40, mi_60, mi_2000, mi_10000] at h11 h13 h14
        all_goals omega
      ·
        have h14 : ¬ (i < (0 : Int32)) := h14
        refine mE_ildn 5 rfl rfl rfl rfl ?_
        refine mE_aldn 6 rfl rfl rfl rfl ?_
        refine mE_gf 9 rfl rfl mh_47 rfl rfl ?_
        refine mE_ic_ge rfl (fun h15 => ?_) (fun h15 => ?_)
        ·
          have h15 : (0 : Int32) ≤ i := h15
          refine mE_ico 20 (-1) rfl rfl rfl ?_
          exact mE_iret rfl ⟨rfl, _, rfl, rfl, Nat.le_of_ble_eq_true rfl, Nat.le_of_ble_eq_true rfl⟩
        ·
          have h15 : ¬ ((0 : Int32) ≤ i) := h15
          exfalso
          simp only [Int32.not_le, Int32.not_lt, Int32.le_iff_toInt_le, Int32.lt_iff_toInt_lt, mi_m1, mi_0, mi_1, mi_2, mi_4, mi_7, mi_9, mi_19, mi_40, mi_60, mi_2000, mi_10000] at h11 h13 h14 h15
          all_goals omega
    ·
      have h13 : ¬ ((-1 : Int32) < i) := h13
      exfalso
      simp only [Int32.not_le, Int32.not_lt, Int32.le_iff_toInt_le, Int32.lt_iff_toInt_lt, mi_m1, mi_0, mi_1, mi_2, mi_4, mi_7, mi_9, mi_19, mi_40, mi_60, mi_2000, mi_10000] at h11 h13
      all_goals omega
