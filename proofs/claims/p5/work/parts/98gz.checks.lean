theorem mkR_all : ∀ y, y < 169 → mchk1 y = true := by
  intro y hy
  by_cases h0 : y < 4
  · exact mchkR_at mkR_0 (by omega) (by omega)
  by_cases h1 : y < 8
  · exact mchkR_at mkR_1 (by omega) (by omega)
  by_cases h2 : y < 12
  · exact mchkR_at mkR_2 (by omega) (by omega)
  by_cases h3 : y < 16
  · exact mchkR_at mkR_3 (by omega) (by omega)
  by_cases h4 : y < 20
  · exact mchkR_at mkR_4 (by omega) (by omega)
  by_cases h5 : y < 24
  · exact mchkR_at mkR_5 (by omega) (by omega)
  by_cases h6 : y < 28
  · exact mchkR_at mkR_6 (by omega) (by omega)
  by_cases h7 : y < 32
  · exact mchkR_at mkR_7 (by omega) (by omega)
  by_cases h8 : y < 36
  · exact mchkR_at mkR_8 (by omega) (by omega)
  by_cases h9 : y < 40
  · exact mchkR_at mkR_9 (by omega) (by omega)
  by_cases h10 : y < 44
  · exact mchkR_at mkR_10 (by omega) (by omega)
  by_cases h11 : y < 48
  · exact mchkR_at mkR_11 (by omega) (by omega)
  by_cases h12 : y < 52
  · exact mchkR_at mkR_12 (by omega) (by omega)
  by_cases h13 : y < 56
  · exact mchkR_at mkR_13 (by omega) (by omega)
  by_cases h14 : y < 60
  · exact mchkR_at mkR_14 (by omega) (by omega)
  by_cases h15 : y < 64
  · exact mchkR_at mkR_15 (by omega) (by omega)
  by_cases h16 : y < 68
  · exact mchkR_at mkR_16 (by omega) (by omega)
  by_cases h17 : y < 72
  · exact mchkR_at mkR_17 (by omega) (by omega)
  by_cases h18 : y < 76
  · exact mchkR_at mkR_18 (by omega) (by omega)
  by_cases h19 : y < 80
  · exact mchkR_at mkR_19 (by omega) (by omega)
  by_cases h20 : y < 84
  · exact mchkR_at mkR_20 (by omega) (by omega)
  by_cases h21 : y < 88
  · exact mchkR_at mkR_21 (by omega) (by omega)
  by_cases h22 : y < 92
  · exact mchkR_at mkR_22 (by omega) (by omega)
  by_cases h23 : y < 96
  · exact mchkR_at mkR_23 (by omega) (by omega)
  by_cases h24 : y < 100
  · exact mchkR_at mkR_24 (by omega) (by omega)
  by_cases h25 : y < 104
  · exact mchkR_at mkR_25 (by omega) (by omega)
  by_cases h26 : y < 108
  · exact mchkR_at mkR_26 (by omega) (by omega)
  by_cases h27 : y < 112
  · exact mchkR_at mkR_27 (by omega) (by omega)
  by_cases h28 : y < 116
  · exact mchkR_at mkR_28 (by omega) (by omega)
  by_cases h29 : y < 120
  · exact mchkR_at mkR_29 (by omega) (by omega)
  by_cases h30 : y < 124
  · exact mchkR_at mkR_30 (by omega) (by omega)
  by_cases h31 : y < 128
  · exact mchkR_at mkR_31 (by omega) (by omega)
  by_cases h32 : y < 132
  · exact mchkR_at mkR_32 (by omega) (by omega)
  by_cases h33 : y < 136
  · exact mchkR_at mkR_33 (by omega) (by omega)
  by_cases h34 : y < 140
  · exact mchkR_at mkR_34 (by omega) (by omega)
  by_cases h35 : y < 144
  · exact mchkR_at mkR_35 (by omega) (by omega)
  by_cases h36 : y < 148
  · exact mchkR_at mkR_36 (by omega) (by omega)
  by_cases h37 : y < 152
  · exact mchkR_at mkR_37 (by omega) (by omega)
  by_cases h38 : y < 156
  · exact mchkR_at mkR_38 (by omega) (by omega)
  by_cases h39 : y < 160
  · exact mchkR_at mkR_39 (by omega) (by omega)
  by_cases h40 : y < 164
  · exact mchkR_at mkR_40 (by omega) (by omega)
  by_cases h41 : y < 168
  · exact mchkR_at mkR_41 (by omega) (by omega)
  by_cases h42 : y < 169
  · exact mchkR_at mkR_42 (by omega) (by omega)
  exact absurd hy h42
theorem mkL_all : ∀ pc, pc < 797 → mokAt RL "law" code (mgd mLlaw mtL_law) pc = true := by
  intro y hy
  by_cases h0 : y < 50
  · exact mchkTr_at mkL_0 (by omega) (by omega)
  by_cases h1 : y < 100
  · exact mchkTr_at mkL_1 (by omega) (by omega)
  by_cases h2 : y < 150
  · exact mchkTr_at mkL_2 (by omega) (by omega)
  by_cases h3 : y < 200
  · exact mchkTr_at mkL_3 (by omega) (by omega)
  by_cases h4 : y < 250
  · exact mchkTr_at mkL_4 (by omega) (by omega)
  by_cases h5 : y < 300
  · exact mchkTr_at mkL_5 (by omega) (by omega)
  by_cases h6 : y < 350
  · exact mchkTr_at mkL_6 (by omega) (by omega)
  by_cases h7 : y < 400
  · exact mchkTr_at mkL_7 (by omega) (by omega)
  by_cases h8 : y < 450
  · exact mchkTr_at mkL_8 (by omega) (by omega)
  by_cases h9 : y < 500
  · exact mchkTr_at mkL_9 (by omega) (by omega)
  by_cases h10 : y < 550
  · exact mchkTr_at mkL_10 (by omega) (by omega)
  by_cases h11 : y < 600
  · exact mchkTr_at mkL_11 (by omega) (by omega)
  by_cases h12 : y < 650
  · exact mchkTr_at mkL_12 (by omega) (by omega)
  by_cases h13 : y < 700
  · exact mchkTr_at mkL_13 (by omega) (by omega)
  by_cases h14 : y < 750
  · exact mchkTr_at mkL_14 (by omega) (by omega)
  by_cases h15 : y < 797
  · exact mchkTr_at mkL_15 (by omega) (by omega)
  exact absurd hy h15
