set_option maxRecDepth 100000 in
theorem mkR_0 : mchkR 0 8 = true := by decide +kernel
set_option maxRecDepth 100000 in
theorem mkR_1 : mchkR 8 8 = true := by decide +kernel
set_option maxRecDepth 100000 in
theorem mkR_2 : mchkR 16 8 = true := by decide +kernel
set_option maxRecDepth 100000 in
theorem mkR_3 : mchkR 24 8 = true := by decide +kernel
set_option maxRecDepth 100000 in
theorem mkR_4 : mchkR 32 8 = true := by decide +kernel
set_option maxRecDepth 100000 in
theorem mkR_5 : mchkR 40 8 = true := by decide +kernel
set_option maxRecDepth 100000 in
theorem mkR_6 : mchkR 48 8 = true := by decide +kernel
set_option maxRecDepth 100000 in
theorem mkR_7 : mchkR 56 8 = true := by decide +kernel
set_option maxRecDepth 100000 in
theorem mkR_8 : mchkR 64 8 = true := by decide +kernel
set_option maxRecDepth 100000 in
theorem mkR_9 : mchkR 72 8 = true := by decide +kernel
set_option maxRecDepth 100000 in
theorem mkR_10 : mchkR 80 8 = true := by decide +kernel
set_option maxRecDepth 100000 in
theorem mkR_11 : mchkR 88 8 = true := by decide +kernel
set_option maxRecDepth 100000 in
theorem mkR_12 : mchkR 96 8 = true := by decide +kernel
set_option maxRecDepth 100000 in
theorem mkR_13 : mchkR 104 8 = true := by decide +kernel
set_option maxRecDepth 100000 in
theorem mkR_14 : mchkR 112 8 = true := by decide +kernel
set_option maxRecDepth 100000 in
theorem mkR_15 : mchkR 120 8 = true := by decide +kernel
set_option maxRecDepth 100000 in
theorem mkR_16 : mchkR 128 8 = true := by decide +kernel
set_option maxRecDepth 100000 in
theorem mkR_17 : mchkR 136 8 = true := by decide +kernel
set_option maxRecDepth 100000 in
theorem mkR_18 : mchkR 144 8 = true := by decide +kernel
set_option maxRecDepth 100000 in
theorem mkR_19 : mchkR 152 8 = true := by decide +kernel
set_option maxRecDepth 100000 in
theorem mkR_20 : mchkR 160 1 = true := by decide +kernel
theorem mkR_all : ∀ y, y < 161 → mchk1 y = true := by
  intro y hy
  by_cases h0 : y < 8
  · exact mchkR_at mkR_0 (by omega) (by omega)
  by_cases h1 : y < 16
  · exact mchkR_at mkR_1 (by omega) (by omega)
  by_cases h2 : y < 24
  · exact mchkR_at mkR_2 (by omega) (by omega)
  by_cases h3 : y < 32
  · exact mchkR_at mkR_3 (by omega) (by omega)
  by_cases h4 : y < 40
  · exact mchkR_at mkR_4 (by omega) (by omega)
  by_cases h5 : y < 48
  · exact mchkR_at mkR_5 (by omega) (by omega)
  by_cases h6 : y < 56
  · exact mchkR_at mkR_6 (by omega) (by omega)
  by_cases h7 : y < 64
  · exact mchkR_at mkR_7 (by omega) (by omega)
  by_cases h8 : y < 72
  · exact mchkR_at mkR_8 (by omega) (by omega)
  by_cases h9 : y < 80
  · exact mchkR_at mkR_9 (by omega) (by omega)
  by_cases h10 : y < 88
  · exact mchkR_at mkR_10 (by omega) (by omega)
  by_cases h11 : y < 96
  · exact mchkR_at mkR_11 (by omega) (by omega)
  by_cases h12 : y < 104
  · exact mchkR_at mkR_12 (by omega) (by omega)
  by_cases h13 : y < 112
  · exact mchkR_at mkR_13 (by omega) (by omega)
  by_cases h14 : y < 120
  · exact mchkR_at mkR_14 (by omega) (by omega)
  by_cases h15 : y < 128
  · exact mchkR_at mkR_15 (by omega) (by omega)
  by_cases h16 : y < 136
  · exact mchkR_at mkR_16 (by omega) (by omega)
  by_cases h17 : y < 144
  · exact mchkR_at mkR_17 (by omega) (by omega)
  by_cases h18 : y < 152
  · exact mchkR_at mkR_18 (by omega) (by omega)
  by_cases h19 : y < 160
  · exact mchkR_at mkR_19 (by omega) (by omega)
  by_cases h20 : y < 161
  · exact mchkR_at mkR_20 (by omega) (by omega)
  exact absurd hy h20
set_option maxRecDepth 100000 in
theorem mkL : mchkT RL "law" code (mgd mLlaw mtL_law) mLlaw = true := by decide +kernel
