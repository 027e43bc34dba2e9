/-! ===== every call of the small machine is the machine's ===== -/
theorem pg_okc_0 (y : Nat) (h1 : 0 ≤ y) (h2 : y < 16) : am_chk y = true := by
  rcases (show y = 0 ∨ y = 1 ∨ y = 2 ∨ y = 3 ∨ y = 4 ∨ y = 5 ∨ y = 6 ∨ y = 7 ∨ y = 8 ∨ y = 9 ∨ y = 10 ∨ y = 11 ∨ y = 12 ∨ y = 13 ∨ y = 14 ∨ y = 15 by omega) with rfl | rfl | rfl | rfl | rfl | rfl | rfl | rfl | rfl | rfl | rfl | rfl | rfl | rfl | rfl | rfl
  · exact pg_ok_0
  · exact pg_ok_1
  · exact pg_ok_2
  · exact pg_ok_3
  · exact pg_ok_4
  · exact pg_ok_5
  · exact pg_ok_6
  · exact pg_ok_7
  · exact pg_ok_8
  · exact pg_ok_9
  · exact pg_ok_10
  · exact pg_ok_11
  · exact pg_ok_12
  · exact pg_ok_13
  · exact pg_ok_14
  · exact pg_ok_15
theorem pg_okc_1 (y : Nat) (h1 : 16 ≤ y) (h2 : y < 32) : am_chk y = true := by
  rcases (show y = 16 ∨ y = 17 ∨ y = 18 ∨ y = 19 ∨ y = 20 ∨ y = 21 ∨ y = 22 ∨ y = 23 ∨ y = 24 ∨ y = 25 ∨ y = 26 ∨ y = 27 ∨ y = 28 ∨ y = 29 ∨ y = 30 ∨ y = 31 by omega) with rfl | rfl | rfl | rfl | rfl | rfl | rfl | rfl | rfl | rfl | rfl | rfl | rfl | rfl | rfl | rfl
  · exact pg_ok_16
  · exact pg_ok_17
  · exact pg_ok_18
  · exact pg_ok_19
  · exact pg_ok_20
  · exact pg_ok_21
  · exact pg_ok_22
  · exact pg_ok_23
  · exact pg_ok_24
  · exact pg_ok_25
  · exact pg_ok_26
  · exact pg_ok_27
  · exact pg_ok_28
  · exact pg_ok_29
  · exact pg_ok_30
  · exact pg_ok_31
theorem pg_okc_2 (y : Nat) (h1 : 32 ≤ y) (h2 : y < 48) : am_chk y = true := by
  rcases (show y = 32 ∨ y = 33 ∨ y = 34 ∨ y = 35 ∨ y = 36 ∨ y = 37 ∨ y = 38 ∨ y = 39 ∨ y = 40 ∨ y = 41 ∨ y = 42 ∨ y = 43 ∨ y = 44 ∨ y = 45 ∨ y = 46 ∨ y = 47 by omega) with rfl | rfl | rfl | rfl | rfl | rfl | rfl | rfl | rfl | rfl | rfl | rfl | rfl | rfl | rfl | rfl
  · exact pg_ok_32
  · exact pg_ok_33
  · exact pg_ok_34
  · exact pg_ok_35
  · exact pg_ok_36
  · exact pg_ok_37
  · exact pg_ok_38
  · exact pg_ok_39
  · exact pg_ok_40
  · exact pg_ok_41
  · exact pg_ok_42
  · exact pg_ok_43
  · exact pg_ok_44
  · exact pg_ok_45
  · exact pg_ok_46
  · exact pg_ok_47
theorem pg_okc_3 (y : Nat) (h1 : 48 ≤ y) (h2 : y < 64) : am_chk y = true := by
  rcases (show y = 48 ∨ y = 49 ∨ y = 50 ∨ y = 51 ∨ y = 52 ∨ y = 53 ∨ y = 54 ∨ y = 55 ∨ y = 56 ∨ y = 57 ∨ y = 58 ∨ y = 59 ∨ y = 60 ∨ y = 61 ∨ y = 62 ∨ y = 63 by omega) with rfl | rfl | rfl | rfl | rfl | rfl | rfl | rfl | rfl | rfl | rfl | rfl | rfl | rfl | rfl | rfl
  · exact pg_ok_48
  · exact pg_ok_49
  · exact pg_ok_50
  · exact pg_ok_51
  · exact pg_ok_52
  · exact pg_ok_53
  · exact pg_ok_54
  · exact pg_ok_55
  · exact pg_ok_56
  · exact pg_ok_57
  · exact pg_ok_58
  · exact pg_ok_59
  · exact pg_ok_60
  · exact pg_ok_61
  · exact pg_ok_62
  · exact pg_ok_63
theorem pg_okc_4 (y : Nat) (h1 : 64 ≤ y) (h2 : y < 80) : am_chk y = true := by
  rcases (show y = 64 ∨ y = 65 ∨ y = 66 ∨ y = 67 ∨ y = 68 ∨ y = 69 ∨ y = 70 ∨ y = 71 ∨ y = 72 ∨ y = 73 ∨ y = 74 ∨ y = 75 ∨ y = 76 ∨ y = 77 ∨ y = 78 ∨ y = 79 by omega) with rfl | rfl | rfl | rfl | rfl | rfl | rfl | rfl | rfl | rfl | rfl | rfl | rfl | rfl | rfl | rfl
  · exact pg_ok_64
  · exact pg_ok_65
  · exact pg_ok_66
  · exact pg_ok_67
  · exact pg_ok_68
  · exact pg_ok_69
  · exact pg_ok_70
  · exact pg_ok_71
  · exact pg_ok_72
  · exact pg_ok_73
  · exact pg_ok_74
  · exact pg_ok_75
  · exact pg_ok_76
  · exact pg_ok_77
  · exact pg_ok_78
  · exact pg_ok_79
theorem pg_okc_5 (y : Nat) (h1 : 80 ≤ y) (h2 : y < 96) : am_chk y = true := by
  rcases (show y = 80 ∨ y = 81 ∨ y = 82 ∨ y = 83 ∨ y = 84 ∨ y = 85 ∨ y = 86 ∨ y = 87 ∨ y = 88 ∨ y = 89 ∨ y = 90 ∨ y = 91 ∨ y = 92 ∨ y = 93 ∨ y = 94 ∨ y = 95 by omega) with rfl | rfl | rfl | rfl | rfl | rfl | rfl | rfl | rfl | rfl | rfl | rfl | rfl | rfl | rfl | rfl
  · exact pg_ok_80
  · exact pg_ok_81
  · exact pg_ok_82
  · exact pg_ok_83
  · exact pg_ok_84
  · exact pg_ok_85
  · exact pg_ok_86
  · exact pg_ok_87
  · exact pg_ok_88
  · exact pg_ok_89
  · exact pg_ok_90
  · exact pg_ok_91
  · exact pg_ok_92
  · exact pg_ok_93
  · exact pg_ok_94
  · exact pg_ok_95
theorem pg_okc_6 (y : Nat) (h1 : 96 ≤ y) (h2 : y < 112) : am_chk y = true := by
  rcases (show y = 96 ∨ y = 97 ∨ y = 98 ∨ y = 99 ∨ y = 100 ∨ y = 101 ∨ y = 102 ∨ y = 103 ∨ y = 104 ∨ y = 105 ∨ y = 106 ∨ y = 107 ∨ y = 108 ∨ y = 109 ∨ y = 110 ∨ y = 111 by omega) with rfl | rfl | rfl | rfl | rfl | rfl | rfl | rfl | rfl | rfl | rfl | rfl | rfl | rfl | rfl | rfl
  · exact pg_ok_96
  · exact pg_ok_97
  · exact pg_ok_98
  · exact pg_ok_99
  · exact pg_ok_100
  · exact pg_ok_101
  · exact pg_ok_102
  · exact pg_ok_103
  · exact pg_ok_104
  · exact pg_ok_105
  · exact pg_ok_106
  · exact pg_ok_107
  · exact pg_ok_108
  · exact pg_ok_109
  · exact pg_ok_110
  · exact pg_ok_111
theorem pg_okc_7 (y : Nat) (h1 : 112 ≤ y) (h2 : y < 128) : am_chk y = true := by
  rcases (show y = 112 ∨ y = 113 ∨ y = 114 ∨ y = 115 ∨ y = 116 ∨ y = 117 ∨ y = 118 ∨ y = 119 ∨ y = 120 ∨ y = 121 ∨ y = 122 ∨ y = 123 ∨ y = 124 ∨ y = 125 ∨ y = 126 ∨ y = 127 by omega) with rfl | rfl | rfl | rfl | rfl | rfl | rfl | rfl | rfl | rfl | rfl | rfl | rfl | rfl | rfl | rfl
  · exact pg_ok_112
  · exact pg_ok_113
  · exact pg_ok_114
  · exact pg_ok_115
  · exact pg_ok_116
  · exact pg_ok_117
  · exact pg_ok_118
  · exact pg_ok_119
  · exact pg_ok_120
  · exact pg_ok_121
  · exact pg_ok_122
  · exact pg_ok_123
  · exact pg_ok_124
  · exact pg_ok_125
  · exact pg_ok_126
  · exact pg_ok_127
theorem pg_okc_8 (y : Nat) (h1 : 128 ≤ y) (h2 : y < 144) : am_chk y = true := by
  rcases (show y = 128 ∨ y = 129 ∨ y = 130 ∨ y = 131 ∨ y = 132 ∨ y = 133 ∨ y = 134 ∨ y = 135 ∨ y = 136 ∨ y = 137 ∨ y = 138 ∨ y = 139 ∨ y = 140 ∨ y = 141 ∨ y = 142 ∨ y = 143 by omega) with rfl | rfl | rfl | rfl | rfl | rfl | rfl | rfl | rfl | rfl | rfl | rfl | rfl | rfl | rfl | rfl
  · exact pg_ok_128
  · exact pg_ok_129
  · exact pg_ok_130
  · exact pg_ok_131
  · exact pg_ok_132
  · exact pg_ok_133
  · exact pg_ok_134
  · exact pg_ok_135
  · exact pg_ok_136
  · exact pg_ok_137
  · exact pg_ok_138
  · exact pg_ok_139
  · exact pg_ok_140
  · exact pg_ok_141
  · exact pg_ok_142
  · exact pg_ok_143
theorem pg_okc_9 (y : Nat) (h1 : 144 ≤ y) (h2 : y < 160) : am_chk y = true := by
  rcases (show y = 144 ∨ y = 145 ∨ y = 146 ∨ y = 147 ∨ y = 148 ∨ y = 149 ∨ y = 150 ∨ y = 151 ∨ y = 152 ∨ y = 153 ∨ y = 154 ∨ y = 155 ∨ y = 156 ∨ y = 157 ∨ y = 158 ∨ y = 159 by omega) with rfl | rfl | rfl | rfl | rfl | rfl | rfl | rfl | rfl | rfl | rfl | rfl | rfl | rfl | rfl | rfl
  · exact pg_ok_144
  · exact pg_ok_145
  · exact pg_ok_146
  · exact pg_ok_147
  · exact pg_ok_148
  · exact pg_ok_149
  · exact pg_ok_150
  · exact pg_ok_151
  · exact pg_ok_152
  · exact pg_ok_153
  · exact pg_ok_154
  · exact pg_ok_155
  · exact pg_ok_156
  · exact pg_ok_157
  · exact pg_ok_158
  · exact pg_ok_159
theorem pg_okc_10 (y : Nat) (h1 : 160 ≤ y) (h2 : y < 176) : am_chk y = true := by
  rcases (show y = 160 ∨ y = 161 ∨ y = 162 ∨ y = 163 ∨ y = 164 ∨ y = 165 ∨ y = 166 ∨ y = 167 ∨ y = 168 ∨ y = 169 ∨ y = 170 ∨ y = 171 ∨ y = 172 ∨ y = 173 ∨ y = 174 ∨ y = 175 by omega) with rfl | rfl | rfl | rfl | rfl | rfl | rfl | rfl | rfl | rfl | rfl | rfl | rfl | rfl | rfl | rfl
  · exact pg_ok_160
  · exact pg_ok_161
  · exact pg_ok_162
  · exact pg_ok_163
  · exact pg_ok_164
  · exact pg_ok_165
  · exact pg_ok_166
  · exact pg_ok_167
  · exact pg_ok_168
  · exact pg_ok_169
  · exact pg_ok_170
  · exact pg_ok_171
  · exact pg_ok_172
  · exact pg_ok_173
  · exact pg_ok_174
  · exact pg_ok_175
theorem pg_okc_11 (y : Nat) (h1 : 176 ≤ y) (h2 : y < 192) : am_chk y = true := by
  rcases (show y = 176 ∨ y = 177 ∨ y = 178 ∨ y = 179 ∨ y = 180 ∨ y = 181 ∨ y = 182 ∨ y = 183 ∨ y = 184 ∨ y = 185 ∨ y = 186 ∨ y = 187 ∨ y = 188 ∨ y = 189 ∨ y = 190 ∨ y = 191 by omega) with rfl | rfl | rfl | rfl | rfl | rfl | rfl | rfl | rfl | rfl | rfl | rfl | rfl | rfl | rfl | rfl
  · exact pg_ok_176
  · exact pg_ok_177
  · exact pg_ok_178
  · exact pg_ok_179
  · exact pg_ok_180
  · exact pg_ok_181
  · exact pg_ok_182
  · exact pg_ok_183
  · exact pg_ok_184
  · exact pg_ok_185
  · exact pg_ok_186
  · exact pg_ok_187
  · exact pg_ok_188
  · exact pg_ok_189
  · exact pg_ok_190
  · exact pg_ok_191
theorem pg_okc_12 (y : Nat) (h1 : 192 ≤ y) (h2 : y < 208) : am_chk y = true := by
  rcases (show y = 192 ∨ y = 193 ∨ y = 194 ∨ y = 195 ∨ y = 196 ∨ y = 197 ∨ y = 198 ∨ y = 199 ∨ y = 200 ∨ y = 201 ∨ y = 202 ∨ y = 203 ∨ y = 204 ∨ y = 205 ∨ y = 206 ∨ y = 207 by omega) with rfl | rfl | rfl | rfl | rfl | rfl | rfl | rfl | rfl | rfl | rfl | rfl | rfl | rfl | rfl | rfl
  · exact pg_ok_192
  · exact pg_ok_193
  · exact pg_ok_194
  · exact pg_ok_195
  · exact pg_ok_196
  · exact pg_ok_197
  · exact pg_ok_198
  · exact pg_ok_199
  · exact pg_ok_200
  · exact pg_ok_201
  · exact pg_ok_202
  · exact pg_ok_203
  · exact pg_ok_204
  · exact pg_ok_205
  · exact pg_ok_206
  · exact pg_ok_207
theorem pg_okc_13 (y : Nat) (h1 : 208 ≤ y) (h2 : y < 224) : am_chk y = true := by
  rcases (show y = 208 ∨ y = 209 ∨ y = 210 ∨ y = 211 ∨ y = 212 ∨ y = 213 ∨ y = 214 ∨ y = 215 ∨ y = 216 ∨ y = 217 ∨ y = 218 ∨ y = 219 ∨ y = 220 ∨ y = 221 ∨ y = 222 ∨ y = 223 by omega) with rfl | rfl | rfl | rfl | rfl | rfl | rfl | rfl | rfl | rfl | rfl | rfl | rfl | rfl | rfl | rfl
  · exact pg_ok_208
  · exact pg_ok_209
  · exact pg_ok_210
  · exact pg_ok_211
  · exact pg_ok_212
  · exact pg_ok_213
  · exact pg_ok_214
  · exact pg_ok_215
  · exact pg_ok_216
  · exact pg_ok_217
  · exact pg_ok_218
  · exact pg_ok_219
  · exact pg_ok_220
  · exact pg_ok_221
  · exact pg_ok_222
  · exact pg_ok_223
theorem pg_okc_14 (y : Nat) (h1 : 224 ≤ y) (h2 : y < 240) : am_chk y = true := by
  rcases (show y = 224 ∨ y = 225 ∨ y = 226 ∨ y = 227 ∨ y = 228 ∨ y = 229 ∨ y = 230 ∨ y = 231 ∨ y = 232 ∨ y = 233 ∨ y = 234 ∨ y = 235 ∨ y = 236 ∨ y = 237 ∨ y = 238 ∨ y = 239 by omega) with rfl | rfl | rfl | rfl | rfl | rfl | rfl | rfl | rfl | rfl | rfl | rfl | rfl | rfl | rfl | rfl
  · exact pg_ok_224
  · exact pg_ok_225
  · exact pg_ok_226
  · exact pg_ok_227
  · exact pg_ok_228
  · exact pg_ok_229
  · exact pg_ok_230
  · exact pg_ok_231
  · exact pg_ok_232
  · exact pg_ok_233
  · exact pg_ok_234
  · exact pg_ok_235
  · exact pg_ok_236
  · exact pg_ok_237
  · exact pg_ok_238
  · exact pg_ok_239
theorem pg_okc_15 (y : Nat) (h1 : 240 ≤ y) (h2 : y < 256) : am_chk y = true := by
  rcases (show y = 240 ∨ y = 241 ∨ y = 242 ∨ y = 243 ∨ y = 244 ∨ y = 245 ∨ y = 246 ∨ y = 247 ∨ y = 248 ∨ y = 249 ∨ y = 250 ∨ y = 251 ∨ y = 252 ∨ y = 253 ∨ y = 254 ∨ y = 255 by omega) with rfl | rfl | rfl | rfl | rfl | rfl | rfl | rfl | rfl | rfl | rfl | rfl | rfl | rfl | rfl | rfl
  · exact pg_ok_240
  · exact pg_ok_241
  · exact pg_ok_242
  · exact pg_ok_243
  · exact pg_ok_244
  · exact pg_ok_245
  · exact pg_ok_246
  · exact pg_ok_247
  · exact pg_ok_248
  · exact pg_ok_249
  · exact pg_ok_250
  · exact pg_ok_251
  · exact pg_ok_252
  · exact pg_ok_253
  · exact pg_ok_254
  · exact pg_ok_255
theorem pg_okc_16 (y : Nat) (h1 : 256 ≤ y) (h2 : y < 272) : am_chk y = true := by
  rcases (show y = 256 ∨ y = 257 ∨ y = 258 ∨ y = 259 ∨ y = 260 ∨ y = 261 ∨ y = 262 ∨ y = 263 ∨ y = 264 ∨ y = 265 ∨ y = 266 ∨ y = 267 ∨ y = 268 ∨ y = 269 ∨ y = 270 ∨ y = 271 by omega) with rfl | rfl | rfl | rfl | rfl | rfl | rfl | rfl | rfl | rfl | rfl | rfl | rfl | rfl | rfl | rfl
  · exact pg_ok_256
  · exact pg_ok_257
  · exact pg_ok_258
  · exact pg_ok_259
  · exact pg_ok_260
  · exact pg_ok_261
  · exact pg_ok_262
  · exact pg_ok_263
  · exact pg_ok_264
  · exact pg_ok_265
  · exact pg_ok_266
  · exact pg_ok_267
  · exact pg_ok_268
  · exact pg_ok_269
  · exact pg_ok_270
  · exact pg_ok_271
theorem pg_okc_17 (y : Nat) (h1 : 272 ≤ y) (h2 : y < 274) : am_chk y = true := by
  rcases (show y = 272 ∨ y = 273 by omega) with rfl | rfl
  · exact pg_ok_272
  · exact pg_ok_273
theorem pg_ok_all (y : Nat) (h : y < 274) : am_chk y = true := by
  by_cases h0 : y < 16
  · exact pg_okc_0 y (by omega) h0
  by_cases h1 : y < 32
  · exact pg_okc_1 y (by omega) h1
  by_cases h2 : y < 48
  · exact pg_okc_2 y (by omega) h2
  by_cases h3 : y < 64
  · exact pg_okc_3 y (by omega) h3
  by_cases h4 : y < 80
  · exact pg_okc_4 y (by omega) h4
  by_cases h5 : y < 96
  · exact pg_okc_5 y (by omega) h5
  by_cases h6 : y < 112
  · exact pg_okc_6 y (by omega) h6
  by_cases h7 : y < 128
  · exact pg_okc_7 y (by omega) h7
  by_cases h8 : y < 144
  · exact pg_okc_8 y (by omega) h8
  by_cases h9 : y < 160
  · exact pg_okc_9 y (by omega) h9
  by_cases h10 : y < 176
  · exact pg_okc_10 y (by omega) h10
  by_cases h11 : y < 192
  · exact pg_okc_11 y (by omega) h11
  by_cases h12 : y < 208
  · exact pg_okc_12 y (by omega) h12
  by_cases h13 : y < 224
  · exact pg_okc_13 y (by omega) h13
  by_cases h14 : y < 240
  · exact pg_okc_14 y (by omega) h14
  by_cases h15 : y < 256
  · exact pg_okc_15 y (by omega) h15
  by_cases h16 : y < 272
  · exact pg_okc_16 y (by omega) h16
  exact pg_okc_17 y (by omega) h
set_option maxRecDepth 100000 in
theorem pg_y_in : ∀ y, y < 272 → y ∈ pg_ys.flatten := by decide +kernel
set_option maxRecDepth 100000 in
theorem pg_plain : ∀ y, y < 272 → plainName (pg_nm y).cls = true := by decide +kernel
set_option maxRecDepth 100000 in
theorem pg_P0 : ∀ y, y < 272 → am_P y 0 = 0 := by decide +kernel
set_option maxRecDepth 100000 in
theorem pg_sct : ∀ y, y < 272 → pg_is y = true → pg_ct0 y = false := by decide +kernel
theorem am_cal_mono : ∀ (d y : Nat) (as : List Value) (S : am_S) (v : Option Value) (S' : am_S), am_cal d y as S = some (v, S') → am_n S ≤ am_n S' ∧ am_w S ≤ am_w S'
  | 0, _, _, _, _, _, h => by cases h
  | d + 1, y, as, S, v, S', h => by
    obtain ⟨hg, n, hn⟩ := am_cal_spec h
    exact am_mono (am_cal_mono d) y n _ _ _ _ _ hn
theorem am_cal_nc (d z : Nat) (as : List Value) (S : am_S) (v : Option Value) (S' : am_S) (h : am_cok z true = true ∨ (am_cok z false = true ∧ ((pg_nm z).name != "<init>") = true)) (hc : am_cal d z as S = some (v, S')) : am_n S' = am_n S := by
  have hz : pg_ct0 z = false := by
    rcases h with h | ⟨h, h2⟩
    · cases d with
      | zero => cases hc
      | succ d =>
        obtain ⟨hg, -⟩ := am_cal_spec hc
        exact pg_sct z (am_gr_spec hg).1 (am_cok_spec h).2.1
    · unfold pg_ct0
      simpa using h2
  have h := am_cal_ly d z as S v S' hz hc
  unfold am_ly at h
  simp only [Prod.mk.injEq] at h
  exact h.1
theorem am_cal_rc (d z : Nat) (as : List Value) (S : am_S) (v : Option Value) (S' : am_S) (hc : am_cal d z as S = some (v, S')) (hs : pg_is z = false) : ∃ b As, as = .ref b :: As ∧ am_c S b = pg_ow z := by
  cases d with
  | zero => cases hc
  | succ d =>
    obtain ⟨hg, -⟩ := am_cal_spec hc
    exact (am_gr_spec hg).2.2.2 hs
set_option maxHeartbeats 4000000 in
theorem am_Mall (l : Launch) : ∀ (d y : Nat) (as : List Value) (S : am_S) (v : Option Value) (S' : am_S), am_cal d y as S = some (v, S') → am_M l d y as S v S'
  | 0, _, _, _, _, _, h => by cases h
  | d + 1, y, as, S, v, S', h => by
    intro A D dA ad adV L xs hL31
    obtain ⟨hg, n, hn⟩ := am_cal_spec h
    obtain ⟨hy, hnod, hlen, -⟩ := am_gr_spec hg
    have hyin := pg_y_in y hy
    refine Met.ofW (cc := pg_by y) (maxL := pg_mx y) (ret := pg_rt y) (pg_plain y hy) rfl ?_
    intro p e s m args below meth c s₁ B hml hv
    obtain ⟨rfl, hK, hNW, hE, hP, hD, hIv, hA⟩ := hv
    have hx := B.exec
    have hb := B.bytes
    have hr := B.returns
    have hts := am_rpre B
    have hown : s.vm.findClass (am_on (pg_ow y)) = some m.cls := by
      have := findClass_of_methodNamed B.named
      rw [(pg_cls y hyin).1] at this
      exact this
    have hlocks := B.notSynchronized
    have hnm : (pg_nm y).name = "<init>" → meth.name = "<init>" := fun h => (name_of_methodNamed B.named B.method).1.trans h
    have hl := lv_entry (as.map (am_tr ad)) (n := pg_mx y) (by rw [am_spr_sl ad as hnod]; exact hlen)
    rw [lg_entry_eq]
    generalize (lg_sl (as.map (am_tr ad)) ++ List.replicate (pg_mx y - (lg_sl (as.map (am_tr ad))).length) Slot.unset).toArray = ls at hl ⊢
    have hh := am_has_ent rfl hnod hlen hl
    have hC : am_Cx p s m (as.map (am_tr ad)).toArray meth c A D dA y := ⟨hx, hb, hml, hown, hts, hK, hNW, hA, hnm⟩
    have key := am_go (p := p) (l := l) (e := e) (R := { frames := d + 1 + 8, cells := am_n S' - am_n S, slots := am_w S' - am_w S, locals := 64 * (d + 1 + 8) }) (s := s) (m := m) (args := (as.map (am_tr ad)).toArray) (below := below) (meth := meth) (c := c)
      (Q := MQ below (am_Q A D dA ad L xs (am_n S) v S') (as.map (am_tr ad)).toArray s (am_n S' - am_n S) (am_w S' - am_w S) A) (A := A) (D := D) (dA := dA) (adV := adV) (L := L) (xs := xs) hC (pg_ok_all y (by omega)) (f := am_cal d) (d := d) (am_Mall l d) (am_cal_mono d) (am_cal_nc d) (am_cal_rc d) hL31 (am_str l) (Nat.le_refl _) (Nat.le_refl _) (r := (v, S')) (n0 := am_n S) (w0 := am_w S) (Nat.le_refl _) (Nat.le_refl _) (ad0 := ad)
      (fun pc ad' H locs ls lo x hd hrt hrx hag hPt => by
        obtain ⟨hP, hD, hS, hIv, hE, hl⟩ := hPt
        have hrx : v = some (.int x) := hrx
        subst hrx
        exact W.iret hx hb (hr.trans hrt) (fun t ht hW => ⟨⟨ad', rfl, hag, ⟨by rw [ht]; exact hP, hD, hIv⟩, fun x h => by cases h⟩, hS.F ht⟩) hS.2.2 hd)
      (fun pc ad' H locs ls lo x hd hrt hx01 hrx hag hPt => by
        obtain ⟨hP, hD, hS, hIv, hE, hl⟩ := hPt
        have hrx : v = some (.int x) := hrx
        subst hrx
        exact W.zret hx hb (hr.trans hrt) (by rcases hx01 with rfl | rfl <;> decide) (fun t ht hW => ⟨⟨ad', rfl, hag, ⟨by rw [ht]; exact hP, hD, hIv⟩, fun x h => by cases h⟩, hS.F ht⟩) hS.2.2 hd)
      (fun pc ad' H locs ls lo x hd hrt hrx hag hPt => by
        obtain ⟨hP, hD, hS, hIv, hE, hl⟩ := hPt
        have hrx : v = some (.long x) := hrx
        subst hrx
        exact W.lret hx hb (hr.trans hrt) (fun t ht hW => ⟨⟨ad', rfl, hag, ⟨by rw [ht]; exact hP, hD, hIv⟩, fun x h => by cases h⟩, hS.F ht⟩) hS.2.2 hd)
      (fun pc ad' H locs ls lo x hd hrt hx2 hrx hag hPt => by
        obtain ⟨hP, hD, hS, hIv, hE, hl⟩ := hPt
        have hrx : v = some (.ref x) := hrx
        subst hrx
        obtain ⟨t0, ht0⟩ := hrt
        exact W.aret hx hb (hr.trans ht0) (Or.inl ⟨t0, rfl⟩) (Or.inr ⟨_, rfl⟩) (fun t ht hW => ⟨⟨ad', rfl, hag, ⟨by rw [ht]; exact hP, hD, hIv⟩, fun x h => by cases h; exact hx2⟩, hS.F ht⟩) hS.2.2 hd)
      (fun pc ad' H locs ls lo hd hrt hrx hag hPt => by
        obtain ⟨hP, hD, hS, hIv, hE, hl⟩ := hPt
        have hrx : v = none := hrx
        subst hrx
        exact W.vret hx hb (hr.trans hrt) (fun t ht hW => ⟨⟨ad', rfl, hag, ⟨by rw [ht]; exact hP, hD, hIv⟩, fun x h => by cases h⟩, hS.F ht⟩) hS.2.2 hd)
      n 0 (am_ent y as) [] S hn 0 ad s.heap [] ls (pg_P0 y hy).symm (Nat.le_refl _) (Nat.le_refl _) am_ag.rf ⟨hP, hD, va_S.rf, hIv, hE, hh⟩
    rw [Nat.sub_self, Nat.sub_self] at key
    exact key
