set_option maxRecDepth 100000 in
theorem mf_oi : (.instanceMethod Lib.objectInit : Cond) ∈ mTB := mIn_mem (i := 95) (by decide +kernel)
set_option maxRecDepth 100000 in
theorem mf_oc : (.code Lib.objectInit ⟨#[0xb1]⟩ 1 none : Cond) ∈ mTB := mIn_mem (i := 96) (by decide +kernel)
set_option maxRecDepth 100000 in
theorem mf_max_s : (.static Lib.Math.max.name : Cond) ∈ mTB := mIn_mem (i := 337) (by decide +kernel)
set_option maxRecDepth 100000 in
theorem mf_max_c : (.code Lib.Math.max.name Lib.Math.max.code 2 (some .int) : Cond) ∈ mTB := mIn_mem (i := 338) (by decide +kernel)
set_option maxRecDepth 100000 in
theorem mf_min_s : (.static Lib.Math.min.name : Cond) ∈ mTB := mIn_mem (i := 340) (by decide +kernel)
set_option maxRecDepth 100000 in
theorem mf_min_c : (.code Lib.Math.min.name Lib.Math.min.code 2 (some .int) : Cond) ∈ mTB := mIn_mem (i := 341) (by decide +kernel)
set_option maxRecDepth 100000 in
theorem mf_abs_s : (.static Lib.Math.abs.name : Cond) ∈ mTB := mIn_mem (i := 714) (by decide +kernel)
set_option maxRecDepth 100000 in
theorem mf_abs_c : (.code Lib.Math.abs.name Lib.Math.abs.code 1 (some .int) : Cond) ∈ mTB := mIn_mem (i := 715) (by decide +kernel)
set_option maxRecDepth 100000 in
theorem mf_math : (.initialized "java/lang/Math" : Cond) ∈ mTB := mIn_mem (i := 81) (by decide +kernel)
set_option maxRecDepth 100000 in
theorem mf_ac_n : (.native arraycopyName : Cond) ∈ mTB := mIn_mem (i := 436) (by decide +kernel)
set_option maxRecDepth 100000 in
theorem mf_ac_s : (.static arraycopyName : Cond) ∈ mTB := mIn_mem (i := 435) (by decide +kernel)
set_option maxRecDepth 100000 in
theorem mf_sys : (.initialized "java/lang/System" : Cond) ∈ mTB := mIn_mem (i := 85) (by decide +kernel)
set_option maxRecDepth 100000 in
theorem mf_int : (.arrayClass .int : Cond) ∈ mTB := mIn_mem (i := 123) (by decide +kernel)
set_option maxRecDepth 100000 in
theorem mf_bool : (.arrayClass .boolean : Cond) ∈ mTB := mIn_mem (i := 1050) (by decide +kernel)
theorem mIn_list {ws : List Cond} {ps : List Nat} (hl : ws.length = ps.length) (h : (ws.zip ps).all (fun q => mIn q.2 q.1) = true) : ∀ w ∈ ws, w ∈ mTB := by
  intro w hw
  obtain ⟨i, hi⟩ := List.getElem?_of_mem hw
  have hil := (List.getElem?_eq_some_iff.mp hi).1
  have hp : ps[i]? = some (ps[i]'(by omega)) := List.getElem?_eq_getElem (by omega)
  have hz : (ws.zip ps)[i]? = some (w, ps[i]'(by omega)) := by rw [List.getElem?_zip_eq_some]; exact ⟨hi, hp⟩
  exact mIn_mem (List.all_eq_true.mp h _ (List.mem_of_getElem? hz))
set_option maxRecDepth 100000 in
theorem mf_ws0 : ∀ w ∈ u_ws RX0 TX0 2, w ∈ mTB := mIn_list (ps := [203, 205]) (by decide +kernel) (by decide +kernel)
set_option maxRecDepth 100000 in
theorem mf_in0 : (.instantiable RX0 2 : Cond) ∈ mTB := mIn_mem (i := 195) (by decide +kernel)
set_option maxRecDepth 100000 in
theorem mf_ii0 : (.initialized RX0 : Cond) ∈ mTB := mIn_mem (i := 75) (by decide +kernel)
set_option maxRecDepth 100000 in
theorem mf_ws1 : ∀ w ∈ u_ws RX1 TX1 4, w ∈ mTB := mIn_list (ps := [271, 273, 275, 277]) (by decide +kernel) (by decide +kernel)
set_option maxRecDepth 100000 in
theorem mf_in1 : (.instantiable RX1 4 : Cond) ∈ mTB := mIn_mem (i := 259) (by decide +kernel)
set_option maxRecDepth 100000 in
theorem mf_ii1 : (.initialized RX1 : Cond) ∈ mTB := mIn_mem (i := 78) (by decide +kernel)
set_option maxRecDepth 100000 in
theorem mf_ws2 : ∀ w ∈ u_ws RX2 TX2 8, w ∈ mTB := mIn_list (ps := [223, 225, 227, 229, 231, 233, 235, 237]) (by decide +kernel) (by decide +kernel)
set_option maxRecDepth 100000 in
theorem mf_in2 : (.instantiable RX2 8 : Cond) ∈ mTB := mIn_mem (i := 209) (by decide +kernel)
set_option maxRecDepth 100000 in
theorem mf_ii2 : (.initialized RX2 : Cond) ∈ mTB := mIn_mem (i := 76) (by decide +kernel)
set_option maxRecDepth 100000 in
theorem mf_ws3 : ∀ w ∈ u_ws RX3 TX3 2, w ∈ mTB := mIn_list (ps := [250, 252]) (by decide +kernel) (by decide +kernel)
set_option maxRecDepth 100000 in
theorem mf_in3 : (.instantiable RX3 2 : Cond) ∈ mTB := mIn_mem (i := 240) (by decide +kernel)
set_option maxRecDepth 100000 in
theorem mf_ii3 : (.initialized RX3 : Cond) ∈ mTB := mIn_mem (i := 77) (by decide +kernel)
set_option maxRecDepth 100000 in
theorem mf_ws4 : ∀ w ∈ u_ws RX4 TX4 10, w ∈ mTB := mIn_list (ps := [531, 533, 535, 537, 539, 541, 543, 545, 547, 549]) (by decide +kernel) (by decide +kernel)
set_option maxRecDepth 100000 in
theorem mf_in4 : (.instantiable RX4 10 : Cond) ∈ mTB := mIn_mem (i := 505) (by decide +kernel)
set_option maxRecDepth 100000 in
theorem mf_ii4 : (.initialized RX4 : Cond) ∈ mTB := mIn_mem (i := 87) (by decide +kernel)
set_option maxRecDepth 100000 in
theorem mf_ws5 : ∀ w ∈ u_ws RX5 TX5 8, w ∈ mTB := mIn_list (ps := [163, 165, 167, 169, 171, 173, 175, 177]) (by decide +kernel) (by decide +kernel)
set_option maxRecDepth 100000 in
theorem mf_in5 : (.instantiable RX5 8 : Cond) ∈ mTB := mIn_mem (i := 125) (by decide +kernel)
set_option maxRecDepth 100000 in
theorem mf_ii5 : (.initialized RX5 : Cond) ∈ mTB := mIn_mem (i := 72) (by decide +kernel)
set_option maxRecDepth 100000 in
theorem mf_ws6 : ∀ w ∈ u_ws RX6 TX6 2, w ∈ mTB := mIn_list (ps := [189, 191]) (by decide +kernel) (by decide +kernel)
set_option maxRecDepth 100000 in
theorem mf_in6 : (.instantiable RX6 2 : Cond) ∈ mTB := mIn_mem (i := 181) (by decide +kernel)
set_option maxRecDepth 100000 in
theorem mf_ii6 : (.initialized RX6 : Cond) ∈ mTB := mIn_mem (i := 74) (by decide +kernel)
set_option maxRecDepth 100000 in
theorem mf_ws7 : ∀ w ∈ u_ws RX7 TX7 14, w ∈ mTB := mIn_list (ps := [594, 596, 598, 600, 602, 604, 606, 608, 610, 612, 614, 616, 618, 620]) (by decide +kernel) (by decide +kernel)
set_option maxRecDepth 100000 in
theorem mf_in7 : (.instantiable RX7 14 : Cond) ∈ mTB := mIn_mem (i := 560) (by decide +kernel)
set_option maxRecDepth 100000 in
theorem mf_ii7 : (.initialized RX7 : Cond) ∈ mTB := mIn_mem (i := 88) (by decide +kernel)
set_option maxRecDepth 100000 in
theorem mf_ws8 : ∀ w ∈ u_ws RX8 TX8 2, w ∈ mTB := mIn_list (ps := [118, 120]) (by decide +kernel) (by decide +kernel)
set_option maxRecDepth 100000 in
theorem mf_in8 : (.instantiable RX8 2 : Cond) ∈ mTB := mIn_mem (i := 106) (by decide +kernel)
set_option maxRecDepth 100000 in
theorem mf_ii8 : (.initialized RX8 : Cond) ∈ mTB := mIn_mem (i := 71) (by decide +kernel)
set_option maxRecDepth 100000 in
theorem mf_ws9 : ∀ w ∈ u_ws RX9 TX9 4, w ∈ mTB := mIn_list (ps := [145, 147, 149, 151]) (by decide +kernel) (by decide +kernel)
set_option maxRecDepth 100000 in
theorem mf_in9 : (.instantiable RX9 4 : Cond) ∈ mTB := mIn_mem (i := 131) (by decide +kernel)
set_option maxRecDepth 100000 in
theorem mf_ii9 : (.initialized RX9 : Cond) ∈ mTB := mIn_mem (i := 73) (by decide +kernel)
set_option maxRecDepth 100000 in
theorem mf_ws10 : ∀ w ∈ u_ws RX10 TX10 17, w ∈ mTB := mIn_list (ps := [462, 464, 466, 468, 470, 472, 474, 476, 478, 480, 482, 484, 486, 488, 490, 492, 494]) (by decide +kernel) (by decide +kernel)
set_option maxRecDepth 100000 in
theorem mf_in10 : (.instantiable RX10 17 : Cond) ∈ mTB := mIn_mem (i := 90) (by decide +kernel)
set_option maxRecDepth 100000 in
theorem mf_ii10 : (.initialized RX10 : Cond) ∈ mTB := mIn_mem (i := 70) (by decide +kernel)
set_option maxRecDepth 100000 in
theorem mf_ws11 : ∀ w ∈ u_ws RX11 TX11 43, w ∈ mTB := mIn_list (ps := [963, 965, 967, 969, 971, 973, 975, 977, 979, 981, 983, 985, 987, 989, 991, 993, 995, 997, 999, 1001, 1003, 1005, 1007, 1009, 1011, 1013, 1015, 1017, 1019, 1021, 1023, 1025, 1027, 1029, 1031, 1033, 1035, 1037, 1039, 1041, 1043, 1045, 1047]) (by decide +kernel) (by decide +kernel)
set_option maxRecDepth 100000 in
theorem mf_in11 : (.instantiable RX11 43 : Cond) ∈ mTB := mIn_mem (i := 915) (by decide +kernel)
set_option maxRecDepth 100000 in
theorem mf_ii11 : (.initialized RX11 : Cond) ∈ mTB := mIn_mem (i := 86) (by decide +kernel)
theorem mcl_in {ci : Nat} {q : vw_C} (h : mcl[ci]? = some q) : (∀ w ∈ u_ws q.1 q.2.1 q.2.2, w ∈ mTB) ∧ Cond.instantiable q.1 q.2.2 ∈ mTB ∧ Cond.initialized q.1 ∈ mTB := by
  match ci, h with
  | 0, h => cases h; exact ⟨mf_ws0, mf_in0, mf_ii0⟩
  | 1, h => cases h; exact ⟨mf_ws1, mf_in1, mf_ii1⟩
  | 2, h => cases h; exact ⟨mf_ws2, mf_in2, mf_ii2⟩
  | 3, h => cases h; exact ⟨mf_ws3, mf_in3, mf_ii3⟩
  | 4, h => cases h; exact ⟨mf_ws4, mf_in4, mf_ii4⟩
  | 5, h => cases h; exact ⟨mf_ws5, mf_in5, mf_ii5⟩
  | 6, h => cases h; exact ⟨mf_ws6, mf_in6, mf_ii6⟩
  | 7, h => cases h; exact ⟨mf_ws7, mf_in7, mf_ii7⟩
  | 8, h => cases h; exact ⟨mf_ws8, mf_in8, mf_ii8⟩
  | 9, h => cases h; exact ⟨mf_ws9, mf_in9, mf_ii9⟩
  | 10, h => cases h; exact ⟨mf_ws10, mf_in10, mf_ii10⟩
  | 11, h => cases h; exact ⟨mf_ws11, mf_in11, mf_ii11⟩
