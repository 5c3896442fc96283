/-! the chain of contracts -/
theorem ca_0 : CTall 1 3 := CTall_succ rfl CTall_0 (CT_isX (d := 3) (j := 10) (ci := 10) (r := 0) (p := 0) rfl rfl rfl (fun v n k h fs h1 h2 h3 => r_isX 1 83 10 v n k h fs h1 h2 h3 (by decide)))
theorem ca_1 : CTall 2 4 := CTall_succ rfl ca_0 (CT_within (d := 3) (fun v a b h => r_within _ v a b h) _ _ _ _)
theorem ca_2 : CTall 3 5 := CTall_succ rfl ca_1 (CT_isX (d := 5) (j := 11) (ci := 10) (r := 0) (p := 1) rfl rfl rfl (fun v n k h fs h1 h2 h3 => r_isX 3 84 11 v n k h fs h1 h2 h3 (by decide)))
theorem ca_3 : CTall 4 6 := CTall_succ rfl ca_2 (CT_within (d := 5) (fun v a b h => r_within _ v a b h) _ _ _ _)
theorem ca_4 : CTall 5 7 := CTall_succ rfl ca_3 (CT_within (d := 6) (fun v a b h => r_within _ v a b h) _ _ _ _)
theorem ca_5 : CTall 6 8 := CTall_succ rfl ca_4 (CT_within (d := 7) (fun v a b h => r_within _ v a b h) _ _ _ _)
theorem ca_6 : CTall 7 9 := CTall_succ rfl ca_5 (CT_within (d := 8) (fun v a b h => r_within _ v a b h) _ _ _ _)
theorem ca_7 : CTall 8 10 := CTall_succ rfl ca_6 (CT_within (d := 9) (fun v a b h => r_within _ v a b h) _ _ _ _)
theorem ca_8 : CTall 9 11 := CTall_succ rfl ca_7 (CT_within (d := 10) (fun v a b h => r_within _ v a b h) _ _ _ _)
theorem ca_9 : CTall 10 12 := CTall_succ rfl ca_8 (CT_within (d := 11) (fun v a b h => r_within _ v a b h) _ _ _ _)
theorem ca_10 : CTall 11 13 := CTall_succ rfl ca_9 (CT_isX (d := 13) (j := 9) (ci := 11) (r := 30) (p := 10) rfl rfl rfl (fun v n k h fs h1 h2 _ => r_MisX 12 106 9 v n k h fs h1 h2 (by decide)))
theorem ca_11 : CTall 12 14 := CTall_succ rfl ca_10 (CT_within (d := 13) (fun v a b h => r_Mwithin _ v a b h) _ _ _ _)
theorem ca_12 : CTall 13 15 := CTall_succ rfl ca_11 (CT_isX (d := 15) (j := 21) (ci := 11) (r := 30) (p := 11) rfl rfl rfl (fun v n k h fs h1 h2 _ => r_MisX 14 107 21 v n k h fs h1 h2 (by decide)))
theorem ca_13 : CTall 14 16 := CTall_succ rfl ca_12 (CT_within (d := 15) (fun v a b h => r_Mwithin _ v a b h) _ _ _ _)
theorem ca_14 : CTall 15 17 := CTall_succ rfl ca_13 (CT_within (d := 16) (fun v a b h => r_Mwithin _ v a b h) _ _ _ _)
theorem ca_15 : CTall 16 18 := CTall_succ rfl ca_14 (CT_within (d := 17) (fun v a b h => r_Mwithin _ v a b h) _ _ _ _)
theorem ca_16 : CTall 17 19 := CTall_chk rfl ca_15 k_16
theorem ca_17 : CTall 18 20 := CTall_chk rfl ca_16 k_17
theorem ca_18 : CTall 19 21 := CTall_chk rfl ca_17 k_18
theorem ca_19 : CTall 20 22 := CTall_chk rfl ca_18 k_19
theorem ca_20 : CTall 21 23 := CTall_chk rfl ca_19 k_20
theorem ca_21 : CTall 22 24 := CTall_chk rfl ca_20 k_21
theorem ca_22 : CTall 23 25 := CTall_chk rfl ca_21 k_22
theorem ca_23 : CTall 24 26 := CTall_chk rfl ca_22 k_23
theorem ca_24 : CTall 25 27 := CTall_chk rfl ca_23 k_24
theorem ca_25 : CTall 26 28 := CTall_chk rfl ca_24 k_25
theorem ca_26 : CTall 27 29 := CTall_chk rfl ca_25 k_26
theorem ca_27 : CTall 28 30 := CTall_chk rfl ca_26 k_27
theorem ca_28 : CTall 29 31 := CTall_chk rfl ca_27 k_28
theorem ca_29 : CTall 30 32 := CTall_chk rfl ca_28 k_29
theorem ca_30 : CTall 31 33 := CTall_chk rfl ca_29 k_30
theorem ca_31 : CTall 32 34 := CTall_chk rfl ca_30 k_31
theorem ca_32 : CTall 33 35 := CTall_chk rfl ca_31 k_32
theorem ca_33 : CTall 34 36 := CTall_chk rfl ca_32 k_33
theorem ca_34 : CTall 35 37 := CTall_chk rfl ca_33 k_34
theorem ca_35 : CTall 36 38 := CTall_chk rfl ca_34 k_35
theorem ca_36 : CTall 37 39 := CTall_chk rfl ca_35 k_36
theorem ca_37 : CTall 38 40 := CTall_chk rfl ca_36 k_37
theorem ca_38 : CTall 39 41 := CTall_chk rfl ca_37 k_38
theorem ca_39 : CTall 40 42 := CTall_chk rfl ca_38 k_39
theorem ca_40 : CTall 41 43 := CTall_chk rfl ca_39 k_40
theorem ca_41 : CTall 42 44 := CTall_chk rfl ca_40 k_41
theorem ca_42 : CTall 43 45 := CTall_chk rfl ca_41 k_42
theorem ca_43 : CTall 44 46 := CTall_chk rfl ca_42 k_43
theorem ca_44 : CTall 45 47 := CTall_chk rfl ca_43 k_44
theorem ca_45 : CTall 46 48 := CTall_chk rfl ca_44 k_45
theorem ca_46 : CTall 47 49 := CTall_chk rfl ca_45 k_46
theorem ca_47 : CTall 48 50 := CTall_chk rfl ca_46 k_47
theorem ca_48 : CTall 49 51 := CTall_chk rfl ca_47 k_48
theorem ca_49 : CTall 50 52 := CTall_chk rfl ca_48 k_49
theorem ca_50 : CTall 51 53 := CTall_chk rfl ca_49 k_50
theorem ca_51 : CTall 52 54 := CTall_chk rfl ca_50 k_51
theorem ca_52 : CTall 53 55 := CTall_chk rfl ca_51 k_52
theorem ca_53 : CTall 54 56 := CTall_chk rfl ca_52 k_53
theorem ca_54 : CTall 55 57 := CTall_chk rfl ca_53 k_54
theorem ca_55 : CTall 56 58 := CTall_chk rfl ca_54 k_55
theorem ca_56 : CTall 57 59 := CTall_chk rfl ca_55 k_56
theorem ca_57 : CTall 58 60 := CTall_chk rfl ca_56 k_57
theorem ca_58 : CTall 59 61 := CTall_chk rfl ca_57 k_58
theorem ca_59 : CTall 60 62 := CTall_chk rfl ca_58 k_59
theorem ca_60 : CTall 61 63 := CTall_chk rfl ca_59 k_60
theorem ca_61 : CTall 62 64 := CTall_chk rfl ca_60 k_61
theorem ca_62 : CTall 63 65 := CTall_chk rfl ca_61 k_62
theorem ca_63 : CTall 64 66 := CTall_chk rfl ca_62 k_63
theorem ca_64 : CTall 65 67 := CTall_chk rfl ca_63 k_64
theorem ca_65 : CTall 66 68 := CTall_chk rfl ca_64 k_65
theorem ca_66 : CTall 67 69 := CTall_chk rfl ca_65 k_66
theorem ca_67 : CTall 68 70 := CTall_chk rfl ca_66 k_67
theorem ca_68 : CTall 69 71 := CTall_chk rfl ca_67 k_68
theorem ca_69 : CTall 70 72 := CTall_chk rfl ca_68 k_69
theorem ca_70 : CTall 71 73 := CTall_chk rfl ca_69 k_70
theorem ca_71 : CTall 72 74 := CTall_chk rfl ca_70 k_71
theorem ca_72 : CTall 73 75 := CTall_chk rfl ca_71 k_72
theorem ca_73 : CTall 74 76 := CTall_chk rfl ca_72 k_73
theorem ca_74 : CTall 75 77 := CTall_chk rfl ca_73 k_74
theorem ca_75 : CTall 76 78 := CTall_chk rfl ca_74 k_75
theorem ca_76 : CTall 77 79 := CTall_chk rfl ca_75 k_76
theorem ca_77 : CTall 78 80 := CTall_chk rfl ca_76 k_77
theorem ca_78 : CTall 79 81 := CTall_chk rfl ca_77 k_78
theorem ca_79 : CTall 80 82 := CTall_chk rfl ca_78 k_79
theorem ca_80 : CTall 81 83 := CTall_chk rfl ca_79 k_80
theorem ca_81 : CTall 82 84 := CTall_chk rfl ca_80 k_81
theorem ca_82 : CTall 83 85 := CTall_chk rfl ca_81 k_82
theorem ca_83 : CTall 84 86 := CTall_chk rfl ca_82 k_83
theorem ca_84 : CTall 85 87 := CTall_chk rfl ca_83 k_84
theorem ca_85 : CTall 86 88 := CTall_chk rfl ca_84 k_85
theorem ca_86 : CTall 87 89 := CTall_chk rfl ca_85 k_86
theorem ca_87 : CTall 88 90 := CTall_chk rfl ca_86 k_87
theorem ca_88 : CTall 89 91 := CTall_chk rfl ca_87 k_88
theorem ca_89 : CTall 90 92 := CTall_chk rfl ca_88 k_89
theorem ca_90 : CTall 91 93 := CTall_chk rfl ca_89 k_90
theorem ca_91 : CTall 92 94 := CTall_chk rfl ca_90 k_91
theorem ca_92 : CTall 93 95 := CTall_chk rfl ca_91 k_92
theorem ca_93 : CTall 94 96 := CTall_chk rfl ca_92 k_93
theorem ca_94 : CTall 95 97 := CTall_chk rfl ca_93 k_94
theorem ca_95 : CTall 96 98 := CTall_chk rfl ca_94 k_95
theorem ca_96 : CTall 97 99 := CTall_chk rfl ca_95 k_96
theorem ca_97 : CTall 98 100 := CTall_chk rfl ca_96 k_97
theorem ca_98 : CTall 99 101 := CTall_chk rfl ca_97 k_98
theorem ca_99 : CTall 100 102 := CTall_chk rfl ca_98 k_99
theorem ca_100 : CTall 101 103 := CTall_chk rfl ca_99 k_100
theorem ca_101 : CTall 102 104 := CTall_chk rfl ca_100 k_101
theorem ca_102 : CTall 103 105 := CTall_chk rfl ca_101 k_102
theorem ca_103 : CTall 104 106 := CTall_chk rfl ca_102 k_103
theorem ca_104 : CTall 105 107 := CTall_chk rfl ca_103 k_104
theorem ca_105 : CTall 106 108 := CTall_chk rfl ca_104 k_105
theorem ca_106 : CTall 107 109 := CTall_chk rfl ca_105 k_106
theorem ca_107 : CTall 108 110 := CTall_chk rfl ca_106 k_107
theorem ca_108 : CTall 109 111 := CTall_chk rfl ca_107 k_108
theorem ca_109 : CTall 110 112 := CTall_chk rfl ca_108 k_109
theorem ca_110 : CTall 111 113 := CTall_chk rfl ca_109 k_110
theorem ca_111 : CTall 112 114 := CTall_chk rfl ca_110 k_111
theorem ca_112 : CTall 113 115 := CTall_chk rfl ca_111 k_112
theorem ca_113 : CTall 114 116 := CTall_chk rfl ca_112 k_113
theorem ca_114 : CTall 115 117 := CTall_chk rfl ca_113 k_114
theorem ca_115 : CTall 116 118 := CTall_chk rfl ca_114 k_115
theorem ca_116 : CTall 117 119 := CTall_chk rfl ca_115 k_116
theorem ca_117 : CTall 118 120 := CTall_chk rfl ca_116 k_117
theorem ca_118 : CTall 119 121 := CTall_chk rfl ca_117 k_118
theorem ca_119 : CTall 120 122 := CTall_chk rfl ca_118 k_119
theorem ca_120 : CTall 121 123 := CTall_chk rfl ca_119 k_120
theorem ca_121 : CTall 122 124 := CTall_chk rfl ca_120 k_121
theorem ca_122 : CTall 123 125 := CTall_chk rfl ca_121 k_122
theorem ca_123 : CTall 124 126 := CTall_chk rfl ca_122 k_123
theorem ca_124 : CTall 125 127 := CTall_chk rfl ca_123 k_124
theorem ca_125 : CTall 126 128 := CTall_chk rfl ca_124 k_125
theorem ca_126 : CTall 127 129 := CTall_chk rfl ca_125 k_126
theorem ca_127 : CTall 128 130 := CTall_chk rfl ca_126 k_127
theorem ca_128 : CTall 129 131 := CTall_chk rfl ca_127 k_128
