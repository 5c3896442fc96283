/-! the chain of contracts -/
theorem ca_0 : CTall 1 3 := CTall_succ rfl CTall_0 (CT_isX (d := 3) (j := 10) (ci := 10) (r := 0) (p := 0) rfl rfl rfl (fun v n k h fs h1 h2 h3 => r_isX 1 83 10 v n k h fs h1 h2 h3 (by decide)))
theorem ca_1 : CTall 2 4 := CTall_succ rfl ca_0 (CT_within (d := 3) (fun v a b h => r_within _ v a b h) _ _ _ _)
theorem ca_2 : CTall 3 5 := CTall_succ rfl ca_1 (CT_isX (d := 5) (j := 11) (ci := 10) (r := 0) (p := 1) rfl rfl rfl (fun v n k h fs h1 h2 h3 => r_isX 3 84 11 v n k h fs h1 h2 h3 (by decide)))
theorem ca_3 : CTall 4 6 := CTall_succ rfl ca_2 (CT_within (d := 5) (fun v a b h => r_within _ v a b h) _ _ _ _)
theorem ca_4 : CTall 5 7 := CTall_succ rfl ca_3 (CT_within (d := 6) (fun v a b h => r_within _ v a b h) _ _ _ _)
theorem ca_5 : CTall 6 8 := CTall_succ rfl ca_4 (CT_within (d := 7) (fun v a b h => r_within _ v a b h) _ _ _ _)
theorem ca_6 : CTall 7 9 := CTall_succ rfl ca_5 (CT_within (d := 8) (fun v a b h => r_within _ v a b h) _ _ _ _)
theorem ca_7 : CTall 8 10 := CTall_succ rfl ca_6 (CT_within (d := 9) (fun v a b h => r_within _ v a b h) _ _ _ _)
theorem ca_8 : CTall 9 11 := CTall_succ rfl ca_7 (CT_within (d := 10) (fun v a b h => r_within _ v a b h) _ _ _ _)
theorem ca_9 : CTall 10 12 := CTall_succ rfl ca_8 (CT_within (d := 11) (fun v a b h => r_within _ v a b h) _ _ _ _)
theorem ca_10 : CTall 11 13 := CTall_succ rfl ca_9 (CT_isX (d := 13) (j := 9) (ci := 11) (r := 30) (p := 10) rfl rfl rfl (fun v n k h fs h1 h2 _ => r_MisX 12 106 9 v n k h fs h1 h2 (by decide)))
theorem ca_11 : CTall 12 14 := CTall_succ rfl ca_10 (CT_within (d := 13) (fun v a b h => r_Mwithin _ v a b h) _ _ _ _)
theorem ca_12 : CTall 13 15 := CTall_succ rfl ca_11 (CT_isX (d := 15) (j := 21) (ci := 11) (r := 30) (p := 11) rfl rfl rfl (fun v n k h fs h1 h2 _ => r_MisX 14 107 21 v n k h fs h1 h2 (by decide)))
theorem ca_13 : CTall 14 16 := CTall_succ rfl ca_12 (CT_within (d := 15) (fun v a b h => r_Mwithin _ v a b h) _ _ _ _)
theorem ca_14 : CTall 15 17 := CTall_succ rfl ca_13 (CT_within (d := 16) (fun v a b h => r_Mwithin _ v a b h) _ _ _ _)
theorem ca_15 : CTall 16 18 := CTall_succ rfl ca_14 (CT_within (d := 17) (fun v a b h => r_Mwithin _ v a b h) _ _ _ _)
theorem ca_16 : CTall 17 19 := CTall_succ rfl ca_15 (CT_within (d := 18) (fun v a b h => r_Mwithin _ v a b h) _ _ _ _)
theorem ca_17 : CTall 18 20 := CTall_chk rfl ca_16 k_17
theorem ca_18 : CTall 19 21 := CTall_chk rfl ca_17 k_18
theorem ca_19 : CTall 20 22 := CTall_chk rfl ca_18 k_19
theorem ca_20 : CTall 21 23 := CTall_chk rfl ca_19 k_20
theorem ca_21 : CTall 22 24 := CTall_chk rfl ca_20 k_21
theorem ca_22 : CTall 23 25 := CTall_chk rfl ca_21 k_22
theorem ca_23 : CTall 24 26 := CTall_chk rfl ca_22 k_23
theorem ca_24 : CTall 25 27 := CTall_chk rfl ca_23 k_24
theorem ca_25 : CTall 26 28 := CTall_chk rfl ca_24 k_25
theorem ca_26 : CTall 27 29 := CTall_chk rfl ca_25 k_26
theorem ca_27 : CTall 28 30 := CTall_chk rfl ca_26 k_27
theorem ca_28 : CTall 29 31 := CTall_chk rfl ca_27 k_28
theorem ca_29 : CTall 30 32 := CTall_chk rfl ca_28 k_29
theorem ca_30 : CTall 31 33 := CTall_chk rfl ca_29 k_30
theorem ca_31 : CTall 32 34 := CTall_chk rfl ca_30 k_31
theorem ca_32 : CTall 33 35 := CTall_chk rfl ca_31 k_32
theorem ca_33 : CTall 34 36 := CTall_chk rfl ca_32 k_33
theorem ca_34 : CTall 35 37 := CTall_chk rfl ca_33 k_34
theorem ca_35 : CTall 36 38 := CTall_chk rfl ca_34 k_35
theorem ca_36 : CTall 37 39 := CTall_chk rfl ca_35 k_36
theorem ca_37 : CTall 38 40 := CTall_chk rfl ca_36 k_37
theorem ca_38 : CTall 39 41 := CTall_chk rfl ca_37 k_38
theorem ca_39 : CTall 40 42 := CTall_chk rfl ca_38 k_39
theorem ca_40 : CTall 41 43 := CTall_chk rfl ca_39 k_40
theorem ca_41 : CTall 42 44 := CTall_chk rfl ca_40 k_41
theorem ca_42 : CTall 43 45 := CTall_chk rfl ca_41 k_42
theorem ca_43 : CTall 44 46 := CTall_chk rfl ca_42 k_43
theorem ca_44 : CTall 45 47 := CTall_chk rfl ca_43 k_44
theorem ca_45 : CTall 46 48 := CTall_chk rfl ca_44 k_45
theorem ca_46 : CTall 47 49 := CTall_chk rfl ca_45 k_46
theorem ca_47 : CTall 48 50 := CTall_chk rfl ca_46 k_47
theorem ca_48 : CTall 49 51 := CTall_chk rfl ca_47 k_48
theorem ca_49 : CTall 50 52 := CTall_chk rfl ca_48 k_49
theorem ca_50 : CTall 51 53 := CTall_chk rfl ca_49 k_50
theorem ca_51 : CTall 52 54 := CTall_chk rfl ca_50 k_51
theorem ca_52 : CTall 53 55 := CTall_chk rfl ca_51 k_52
theorem ca_53 : CTall 54 56 := CTall_chk rfl ca_52 k_53
theorem ca_54 : CTall 55 57 := CTall_chk rfl ca_53 k_54
theorem ca_55 : CTall 56 58 := CTall_chk rfl ca_54 k_55
theorem ca_56 : CTall 57 59 := CTall_chk rfl ca_55 k_56
theorem ca_57 : CTall 58 60 := CTall_chk rfl ca_56 k_57
theorem ca_58 : CTall 59 61 := CTall_chk rfl ca_57 k_58
theorem ca_59 : CTall 60 62 := CTall_chk rfl ca_58 k_59
theorem ca_60 : CTall 61 63 := CTall_chk rfl ca_59 k_60
theorem ca_61 : CTall 62 64 := CTall_chk rfl ca_60 k_61
theorem ca_62 : CTall 63 65 := CTall_chk rfl ca_61 k_62
theorem ca_63 : CTall 64 66 := CTall_chk rfl ca_62 k_63
theorem ca_64 : CTall 65 67 := CTall_chk rfl ca_63 k_64
theorem ca_65 : CTall 66 68 := CTall_chk rfl ca_64 k_65
theorem ca_66 : CTall 67 69 := CTall_chk rfl ca_65 k_66
theorem ca_67 : CTall 68 70 := CTall_chk rfl ca_66 k_67
theorem ca_68 : CTall 69 71 := CTall_chk rfl ca_67 k_68
theorem ca_69 : CTall 70 72 := CTall_chk rfl ca_68 k_69
theorem ca_70 : CTall 71 73 := CTall_chk rfl ca_69 k_70
theorem ca_71 : CTall 72 74 := CTall_chk rfl ca_70 k_71
theorem ca_72 : CTall 73 75 := CTall_chk rfl ca_71 k_72
theorem ca_73 : CTall 74 76 := CTall_chk rfl ca_72 k_73
theorem ca_74 : CTall 75 77 := CTall_chk rfl ca_73 k_74
theorem ca_75 : CTall 76 78 := CTall_chk rfl ca_74 k_75
theorem ca_76 : CTall 77 79 := CTall_chk rfl ca_75 k_76
theorem ca_77 : CTall 78 80 := CTall_chk rfl ca_76 k_77
theorem ca_78 : CTall 79 81 := CTall_chk rfl ca_77 k_78
theorem ca_79 : CTall 80 82 := CTall_chk rfl ca_78 k_79
theorem ca_80 : CTall 81 83 := CTall_chk rfl ca_79 k_80
theorem ca_81 : CTall 82 84 := CTall_chk rfl ca_80 k_81
theorem ca_82 : CTall 83 85 := CTall_chk rfl ca_81 k_82
theorem ca_83 : CTall 84 86 := CTall_chk rfl ca_82 k_83
theorem ca_84 : CTall 85 87 := CTall_chk rfl ca_83 k_84
theorem ca_85 : CTall 86 88 := CTall_chk rfl ca_84 k_85
theorem ca_86 : CTall 87 89 := CTall_chk rfl ca_85 k_86
theorem ca_87 : CTall 88 90 := CTall_chk rfl ca_86 k_87
theorem ca_88 : CTall 89 91 := CTall_chk rfl ca_87 k_88
theorem ca_89 : CTall 90 92 := CTall_chk rfl ca_88 k_89
theorem ca_90 : CTall 91 93 := CTall_succ rfl ca_89 (CT_cif (acheck_ok k_90 ca_89) (fun g ρ v hv => by
  obtain ⟨q, rfl, h1, h2⟩ := hv
  have h1 : 1 ≤ q.toInt := h1
  have h2 : q.toInt ≤ 1 := h2
  exact ⟨q, rfl, by omega, by omega⟩))
theorem ca_91 : CTall 92 94 := CTall_chk rfl ca_90 k_91
theorem ca_92 : CTall 93 95 := CTall_chk rfl ca_91 k_92
theorem ca_93 : CTall 94 96 := CTall_chk rfl ca_92 k_93
theorem ca_94 : CTall 95 97 := CTall_chk rfl ca_93 k_94
theorem ca_95 : CTall 96 98 := CTall_succ rfl ca_94 (CT_cif (acheck_ok k_95 ca_94) (fun g ρ v hv => by
  obtain ⟨q, rfl, h1, h2⟩ := hv
  have h1 : 0 ≤ q.toInt := h1
  have h2 : q.toInt ≤ 0 := h2
  exact ⟨q, rfl, by omega, by omega⟩))
theorem ca_96 : CTall 97 99 := CTall_chk rfl ca_95 k_96
theorem ca_97 : CTall 98 100 := CTall_chk rfl ca_96 k_97
theorem ca_98 : CTall 99 101 := CTall_chk rfl ca_97 k_98
theorem ca_99 : CTall 100 102 := CTall_chk rfl ca_98 k_99
theorem ca_100 : CTall 101 103 := CTall_chk rfl ca_99 k_100
theorem ca_101 : CTall 102 104 := CTall_chk rfl ca_100 k_101
theorem ca_102 : CTall 103 105 := CTall_chk rfl ca_101 k_102
theorem ca_103 : CTall 104 106 := CTall_succ rfl ca_102 (CT_cif (acheck_ok k_103 ca_102) (fun g ρ v hv => by
  obtain ⟨q, rfl, h1, h2⟩ := hv
  have h1 : 0 ≤ q.toInt := h1
  have h2 : q.toInt ≤ 2 := h2
  exact ⟨q, rfl, by omega, by omega⟩))
theorem ca_104 : CTall 105 107 := CTall_chk rfl ca_103 k_104
theorem ca_105 : CTall 106 108 := CTall_chk rfl ca_104 k_105
theorem ca_106 : CTall 107 109 := CTall_chk rfl ca_105 k_106
theorem ca_107 : CTall 108 110 := CTall_chk rfl ca_106 k_107
theorem ca_108 : CTall 109 111 := CTall_chk rfl ca_107 k_108
theorem ca_109 : CTall 110 112 := CTall_chk rfl ca_108 k_109
theorem ca_110 : CTall 111 113 := CTall_chk rfl ca_109 k_110
theorem ca_111 : CTall 112 114 := CTall_chk rfl ca_110 k_111
theorem ca_112 : CTall 113 115 := CTall_chk rfl ca_111 k_112
theorem ca_113 : CTall 114 116 := CTall_chk rfl ca_112 k_113
theorem ca_114 : CTall 115 117 := CTall_chk rfl ca_113 k_114
theorem ca_115 : CTall 116 118 := CTall_chk rfl ca_114 k_115
theorem ca_116 : CTall 117 119 := CTall_chk rfl ca_115 k_116
theorem ca_117 : CTall 118 120 := CTall_chk rfl ca_116 k_117
theorem ca_118 : CTall 119 121 := CTall_chk rfl ca_117 k_118
theorem ca_119 : CTall 120 122 := CTall_chk rfl ca_118 k_119
theorem ca_120 : CTall 121 123 := CTall_chk rfl ca_119 k_120
theorem ca_121 : CTall 122 124 := CTall_chk rfl ca_120 k_121
theorem ca_122 : CTall 123 125 := CTall_chk rfl ca_121 k_122
theorem ca_123 : CTall 124 126 := CTall_chk rfl ca_122 k_123
theorem ca_124 : CTall 125 127 := CTall_chk rfl ca_123 k_124
theorem ca_125 : CTall 126 128 := CTall_chk rfl ca_124 k_125
theorem ca_126 : CTall 127 129 := CTall_chk rfl ca_125 k_126
theorem ca_127 : CTall 128 130 := CTall_chk rfl ca_126 k_127
theorem ca_128 : CTall 129 131 := CTall_chk rfl ca_127 k_128
theorem ca_129 : CTall 130 132 := CTall_chk rfl ca_128 k_129
theorem ca_130 : CTall 131 133 := CTall_chk rfl ca_129 k_130
theorem ca_131 : CTall 132 134 := CTall_chk rfl ca_130 k_131
theorem ca_132 : CTall 133 135 := CTall_chk rfl ca_131 k_132
theorem ca_133 : CTall 134 136 := CTall_chk rfl ca_132 k_133
theorem ca_134 : CTall 135 137 := CTall_chk rfl ca_133 k_134
theorem ca_135 : CTall 136 138 := CTall_chk rfl ca_134 k_135
theorem ca_136 : CTall 137 139 := CTall_chk rfl ca_135 k_136
theorem ca_137 : CTall 138 140 := CTall_chk rfl ca_136 k_137
theorem ca_138 : CTall 139 141 := CTall_chk rfl ca_137 k_138
theorem ca_139 : CTall 140 142 := CTall_chk rfl ca_138 k_139
theorem ca_140 : CTall 141 143 := CTall_chk rfl ca_139 k_140
theorem ca_141 : CTall 142 144 := CTall_chk rfl ca_140 k_141
theorem ca_142 : CTall 143 145 := CTall_chk rfl ca_141 k_142
theorem ca_143 : CTall 144 146 := CTall_chk rfl ca_142 k_143
theorem ca_144 : CTall 145 147 := CTall_chk rfl ca_143 k_144
theorem ca_145 : CTall 146 148 := CTall_chk rfl ca_144 k_145
theorem ca_146 : CTall 147 149 := CTall_chk rfl ca_145 k_146
theorem ca_147 : CTall 148 150 := CTall_chk rfl ca_146 k_147
theorem ca_148 : CTall 149 151 := CTall_chk rfl ca_147 k_148
theorem ca_149 : CTall 150 152 := CTall_chk rfl ca_148 k_149
theorem ca_150 : CTall 151 153 := CTall_chk rfl ca_149 k_150
theorem ca_151 : CTall 152 154 := CTall_chk rfl ca_150 k_151
theorem ca_152 : CTall 153 155 := CTall_chk rfl ca_151 k_152
theorem ca_153 : CTall 154 156 := CTall_chk rfl ca_152 k_153
theorem ca_154 : CTall 155 157 := CTall_chk rfl ca_153 k_154
theorem ca_155 : CTall 156 158 := CTall_chk rfl ca_154 k_155
theorem ca_156 : CTall 157 159 := CTall_chk rfl ca_155 k_156
theorem ca_157 : CTall 158 160 := CTall_chk rfl ca_156 k_157
theorem ca_158 : CTall 159 161 := CTall_chk rfl ca_157 k_158
theorem ca_159 : CTall 160 162 := CTall_chk rfl ca_158 k_159
theorem ca_160 : CTall 161 163 := CTall_chk rfl ca_159 k_160
theorem ca_161 : CTall 162 164 := CTall_chk rfl ca_160 k_161
theorem ca_162 : CTall 163 165 := CTall_chk rfl ca_161 k_162
theorem ca_163 : CTall 164 166 := CTall_chk rfl ca_162 k_163
theorem ca_164 : CTall 165 167 := CTall_chk rfl ca_163 k_164
theorem ca_165 : CTall 166 168 := CTall_chk rfl ca_164 k_165
theorem ca_166 : CTall 167 169 := CTall_chk rfl ca_165 k_166
theorem ca_167 : CTall 168 170 := CTall_chk rfl ca_166 k_167
theorem ca_168 : CTall 169 171 := CTall_chk rfl ca_167 k_168
theorem ca_169 : CTall 170 172 := CTall_chk rfl ca_168 k_169
theorem ca_170 : CTall 171 173 := CTall_chk rfl ca_169 k_170
theorem ca_171 : CTall 172 174 := CTall_chk rfl ca_170 k_171
theorem ca_172 : CTall 173 175 := CTall_chk rfl ca_171 k_172
theorem ca_173 : CTall 174 176 := CTall_chk rfl ca_172 k_173
theorem ca_174 : CTall 175 177 := CTall_chk rfl ca_173 k_174
theorem ca_175 : CTall 176 178 := CTall_chk rfl ca_174 k_175
theorem ca_176 : CTall 177 179 := CTall_chk rfl ca_175 k_176
theorem ca_177 : CTall 178 180 := CTall_chk rfl ca_176 k_177
theorem ca_178 : CTall 179 181 := CTall_chk rfl ca_177 k_178
theorem ca_179 : CTall 180 182 := CTall_chk rfl ca_178 k_179
theorem ca_180 : CTall 181 183 := CTall_chk rfl ca_179 k_180
theorem ca_181 : CTall 182 184 := CTall_chk rfl ca_180 k_181
theorem ca_182 : CTall 183 185 := CTall_chk rfl ca_181 k_182
theorem ca_183 : CTall 184 186 := CTall_chk rfl ca_182 k_183
theorem ca_184 : CTall 185 187 := CTall_chk rfl ca_183 k_184
theorem ca_185 : CTall 186 188 := CTall_chk rfl ca_184 k_185
theorem ca_186 : CTall 187 189 := CTall_chk rfl ca_185 k_186
theorem ca_187 : CTall 188 190 := CTall_chk rfl ca_186 k_187
theorem ca_188 : CTall 189 191 := CTall_chk rfl ca_187 k_188
theorem ca_189 : CTall 190 192 := CTall_chk rfl ca_188 k_189
theorem ca_190 : CTall 191 193 := CTall_chk rfl ca_189 k_190
theorem ca_191 : CTall 192 194 := CTall_chk rfl ca_190 k_191
theorem ca_192 : CTall 193 195 := CTall_chk rfl ca_191 k_192
theorem ca_193 : CTall 194 196 := CTall_chk rfl ca_192 k_193
theorem ca_194 : CTall 195 197 := CTall_chk rfl ca_193 k_194
theorem ca_195 : CTall 196 198 := CTall_chk rfl ca_194 k_195
theorem ca_196 : CTall 197 199 := CTall_chk rfl ca_195 k_196
theorem ca_197 : CTall 198 200 := CTall_chk rfl ca_196 k_197
theorem ca_198 : CTall 199 201 := CTall_chk rfl ca_197 k_198
theorem ca_199 : CTall 200 202 := CTall_chk rfl ca_198 k_199
theorem ca_200 : CTall 201 203 := CTall_chk rfl ca_199 k_200
theorem ca_201 : CTall 202 204 := CTall_chk rfl ca_200 k_201
theorem ca_202 : CTall 203 205 := CTall_chk rfl ca_201 k_202
theorem ca_203 : CTall 204 206 := CTall_chk rfl ca_202 k_203
theorem ca_204 : CTall 205 207 := CTall_chk rfl ca_203 k_204
theorem ca_205 : CTall 206 208 := CTall_chk rfl ca_204 k_205
theorem ca_206 : CTall 207 209 := CTall_chk rfl ca_205 k_206
theorem ca_207 : CTall 208 210 := CTall_chk rfl ca_206 k_207
theorem ca_208 : CTall 209 211 := CTall_chk rfl ca_207 k_208
theorem ca_209 : CTall 210 212 := CTall_chk rfl ca_208 k_209
theorem ca_210 : CTall 211 213 := CTall_chk rfl ca_209 k_210
theorem ca_211 : CTall 212 214 := CTall_chk rfl ca_210 k_211
theorem ca_212 : CTall 213 215 := CTall_chk rfl ca_211 k_212
theorem ca_213 : CTall 214 216 := CTall_chk rfl ca_212 k_213
theorem ca_214 : CTall 215 217 := CTall_chk rfl ca_213 k_214
theorem ca_215 : CTall 216 218 := CTall_chk rfl ca_214 k_215
theorem ca_216 : CTall 217 219 := CTall_chk rfl ca_215 k_216
theorem ca_217 : CTall 218 220 := CTall_chk rfl ca_216 k_217
theorem ca_218 : CTall 219 221 := CTall_chk rfl ca_217 k_218
theorem ca_219 : CTall 220 222 := CTall_chk rfl ca_218 k_219
theorem ca_220 : CTall 221 223 := CTall_chk rfl ca_219 k_220
theorem ca_221 : CTall 222 224 := CTall_chk rfl ca_220 k_221
theorem ca_222 : CTall 223 225 := CTall_chk rfl ca_221 k_222
theorem ca_223 : CTall 224 226 := CTall_chk rfl ca_222 k_223
theorem ca_224 : CTall 225 227 := CTall_chk rfl ca_223 k_224
theorem ca_225 : CTall 226 228 := CTall_chk rfl ca_224 k_225
theorem ca_226 : CTall 227 229 := CTall_chk rfl ca_225 k_226
theorem ca_227 : CTall 228 230 := CTall_chk rfl ca_226 k_227
theorem ca_228 : CTall 229 231 := CTall_chk rfl ca_227 k_228
theorem ca_early : CTall 229 231 := ca_228
