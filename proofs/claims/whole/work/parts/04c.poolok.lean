def lm_okY (j : Nat) (e : Nat × Nat × Nat × Nat × Nat × Nat) : Bool :=
  (decide (lm_wd e.2.2.2.1 = some (if e.2.1 = 1 then .static (lm_ys.getD j ⟨"", "", ""⟩) else .instanceMethod (lm_ys.getD j ⟨"", "", ""⟩))) &&
  (decide (e.2.1 = 0 → lm_wd e.2.2.2.2.1 = some (.selects (lm_ys.getD j ⟨"", "", ""⟩).cls (lm_ys.getD j ⟨"", "", ""⟩) (lm_ys.getD j ⟨"", "", ""⟩))) &&
  (decide (lm_wd e.2.2.2.2.2 = some (.initialized (lm_ys.getD j ⟨"", "", ""⟩).cls)) &&
  (decide ((parseMethodDescriptor (lm_ys.getD j ⟨"", "", ""⟩).desc).map (fun d => d.parameters.length) = some e.1) &&
  (decide ((lm_ys.getD j ⟨"", "", ""⟩).cls ≠ "java/lang/invoke/MethodHandle" ∧ (lm_ys.getD j ⟨"", "", ""⟩).cls ≠ "java/lang/invoke/VarHandle") &&
  (decide ((lm_ys.getD j ⟨"", "", ""⟩).cls = lm_Rs.getD (lm_own.getD j 0) "") && (decide (plainName (lm_ys.getD j ⟨"", "", ""⟩).cls = true) && (decide (e.2.1 = 2 ↔ (lm_ys.getD j ⟨"", "", ""⟩).name = "<init>") && (decide (e.2.1 = 2 → lm_rs.getD j none = none) && decide (lm_ml.getD j 0 ≤ 41))))))))))
abbrev lm_cP (j : Nat) : Prop := lm_wd (lm_as.getD j (0, 0, 0, 0, 0, 0)).2.2.1 = some (.code (lm_ys.getD j ⟨"", "", ""⟩) (lm_cs.getD j ⟨#[]⟩) (lm_ml.getD j 0) (lm_rs.getD j none))
theorem lmw_0 : lm_cP 0 := by rfl
theorem lmw_1 : lm_cP 1 := by rfl
theorem lmw_2 : lm_cP 2 := by rfl
theorem lmw_3 : lm_cP 3 := by rfl
theorem lmw_4 : lm_cP 4 := by rfl
theorem lmw_5 : lm_cP 5 := by rfl
theorem lmw_6 : lm_cP 6 := by rfl
theorem lmw_7 : lm_cP 7 := by rfl
theorem lmw_8 : lm_cP 8 := by rfl
theorem lmw_9 : lm_cP 9 := by rfl
theorem lmw_10 : lm_cP 10 := by rfl
theorem lmw_11 : lm_cP 11 := by rfl
theorem lmw_12 : lm_cP 12 := by rfl
theorem lmw_13 : lm_cP 13 := by rfl
theorem lmw_14 : lm_cP 14 := by rfl
theorem lmw_15 : lm_cP 15 := by rfl
theorem lmw_16 : lm_cP 16 := by rfl
theorem lmw_17 : lm_cP 17 := by rfl
theorem lmw_18 : lm_cP 18 := by rfl
theorem lmw_19 : lm_cP 19 := by rfl
theorem lmw_20 : lm_cP 20 := by rfl
theorem lmw_21 : lm_cP 21 := by rfl
theorem lmw_22 : lm_cP 22 := by rfl
theorem lmw_23 : lm_cP 23 := by rfl
theorem lmw_24 : lm_cP 24 := by rfl
theorem lmw_25 : lm_cP 25 := by rfl
theorem lmw_26 : lm_cP 26 := by rfl
theorem lmw_27 : lm_cP 27 := by rfl
theorem lmw_28 : lm_cP 28 := by rfl
theorem lmw_29 : lm_cP 29 := by rfl
theorem lmw_30 : lm_cP 30 := by rfl
theorem lmw_31 : lm_cP 31 := by rfl
theorem lmw_32 : lm_cP 32 := by rfl
theorem lmw_33 : lm_cP 33 := by rfl
theorem lmw_34 : lm_cP 34 := by rfl
theorem lmw_35 : lm_cP 35 := by rfl
theorem lmw_36 : lm_cP 36 := by rfl
theorem lmw_37 : lm_cP 37 := by rfl
theorem lmw_38 : lm_cP 38 := by rfl
theorem lmw_39 : lm_cP 39 := by rfl
theorem lmw_40 : lm_cP 40 := by rfl
theorem lmw_41 : lm_cP 41 := by rfl
theorem lmw_42 : lm_cP 42 := by rfl
theorem lmw_43 : lm_cP 43 := by rfl
theorem lmw_44 : lm_cP 44 := by rfl
theorem lmw_45 : lm_cP 45 := by rfl
theorem lmw_46 : lm_cP 46 := by rfl
theorem lmw_47 : lm_cP 47 := by rfl
theorem lmw_48 : lm_cP 48 := by rfl
theorem lmw_49 : lm_cP 49 := by rfl
theorem lmw_50 : lm_cP 50 := by rfl
theorem lmw_51 : lm_cP 51 := by rfl
theorem lmw_52 : lm_cP 52 := by rfl
theorem lmw_53 : lm_cP 53 := by rfl
theorem lmw_54 : lm_cP 54 := by rfl
theorem lmw_55 : lm_cP 55 := by rfl
theorem lmw_56 : lm_cP 56 := by rfl
theorem lmw_57 : lm_cP 57 := by rfl
theorem lmw_58 : lm_cP 58 := by rfl
theorem lmw_59 : lm_cP 59 := by rfl
theorem lmw_60 : lm_cP 60 := by rfl
theorem lmw_61 : lm_cP 61 := by rfl
theorem lmw_62 : lm_cP 62 := by rfl
theorem lmw_63 : lm_cP 63 := by rfl
theorem lmw_64 : lm_cP 64 := by rfl
theorem lmw_65 : lm_cP 65 := by rfl
theorem lmw_66 : lm_cP 66 := by rfl
theorem lmw_67 : lm_cP 67 := by rfl
theorem lmw_68 : lm_cP 68 := by rfl
theorem lmw_69 : lm_cP 69 := by rfl
theorem lmw_70 : lm_cP 70 := by rfl
theorem lmw_71 : lm_cP 71 := by rfl
theorem lmw_72 : lm_cP 72 := by rfl
theorem lmw_73 : lm_cP 73 := by rfl
theorem lmw_74 : lm_cP 74 := by rfl
theorem lmw_75 : lm_cP 75 := by rfl
theorem lmw_76 : lm_cP 76 := by rfl
theorem lmw_77 : lm_cP 77 := by rfl
theorem lmw_78 : lm_cP 78 := by rfl
theorem lmw_79 : lm_cP 79 := by rfl
theorem lmw_80 : lm_cP 80 := by rfl
theorem lmw_81 : lm_cP 81 := by rfl
theorem lmw_82 : lm_cP 82 := by rfl
theorem lmw_83 : lm_cP 83 := by rfl
theorem lmw_84 : lm_cP 84 := by rfl
theorem lmw_85 : lm_cP 85 := by rfl
theorem lmw_86 : lm_cP 86 := by rfl
theorem lmw_87 : lm_cP 87 := by rfl
theorem lmw_88 : lm_cP 88 := by rfl
theorem lmw_89 : lm_cP 89 := by rfl
theorem lmw_90 : lm_cP 90 := by rfl
theorem lmw_91 : lm_cP 91 := by rfl
theorem lmw_92 : lm_cP 92 := by rfl
theorem lmw_93 : lm_cP 93 := by rfl
theorem lmw_94 : lm_cP 94 := by rfl
theorem lmw_95 : lm_cP 95 := by rfl
theorem lmw_96 : lm_cP 96 := by rfl
theorem lmw_97 : lm_cP 97 := by rfl
theorem lmw_98 : lm_cP 98 := by rfl
theorem lmw_99 : lm_cP 99 := by rfl
theorem lmw_100 : lm_cP 100 := by rfl
theorem lmw_101 : lm_cP 101 := by rfl
theorem lmw_102 : lm_cP 102 := by rfl
theorem lmw_103 : lm_cP 103 := by rfl
theorem lmw_104 : lm_cP 104 := by rfl
theorem lmw_105 : lm_cP 105 := by rfl
theorem lmw_106 : lm_cP 106 := by rfl
theorem lmw_107 : lm_cP 107 := by rfl
theorem lmw_108 : lm_cP 108 := by rfl
theorem lmw_109 : lm_cP 109 := by rfl
theorem lmw_110 : lm_cP 110 := by rfl
theorem lmw_111 : lm_cP 111 := by rfl
theorem lmw_112 : lm_cP 112 := by rfl
theorem lmw_113 : lm_cP 113 := by rfl
theorem lmw_114 : lm_cP 114 := by rfl
theorem lmw_115 : lm_cP 115 := by rfl
theorem lmw_116 : lm_cP 116 := by rfl
theorem lmw_117 : lm_cP 117 := by rfl
theorem lmw_118 : lm_cP 118 := by rfl
theorem lmw_119 : lm_cP 119 := by rfl
theorem lmw_120 : lm_cP 120 := by rfl
theorem lmw_121 : lm_cP 121 := by rfl
theorem lmw_122 : lm_cP 122 := by rfl
theorem lmw_123 : lm_cP 123 := by rfl
theorem lmw_124 : lm_cP 124 := by rfl
theorem lmw_125 : lm_cP 125 := by rfl
theorem lmw_126 : lm_cP 126 := by rfl
theorem lmw_127 : lm_cP 127 := by rfl
theorem lmw_128 : lm_cP 128 := by rfl
theorem lmw_129 : lm_cP 129 := by rfl
theorem lmw_130 : lm_cP 130 := by rfl
theorem lmw_131 : lm_cP 131 := by rfl
theorem lmw_132 : lm_cP 132 := by rfl
theorem lmw_133 : lm_cP 133 := by rfl
theorem lmw_134 : lm_cP 134 := by rfl
theorem lmw_135 : lm_cP 135 := by rfl
theorem lmw_136 : lm_cP 136 := by rfl
theorem lmw_137 : lm_cP 137 := by rfl
theorem lmw_138 : lm_cP 138 := by rfl
theorem lmw_139 : lm_cP 139 := by rfl
theorem lmw_140 : lm_cP 140 := by rfl
theorem lmw_141 : lm_cP 141 := by rfl
theorem lmw_142 : lm_cP 142 := by rfl
theorem lmw_143 : lm_cP 143 := by rfl
theorem lmw_144 : lm_cP 144 := by rfl
theorem lmw_145 : lm_cP 145 := by rfl
theorem lmw_146 : lm_cP 146 := by rfl
theorem lmw_147 : lm_cP 147 := by rfl
theorem lmw_148 : lm_cP 148 := by rfl
theorem lmw_149 : lm_cP 149 := by rfl
theorem lmw_150 : lm_cP 150 := by rfl
theorem lmw_151 : lm_cP 151 := by rfl
theorem lmw_152 : lm_cP 152 := by rfl
theorem lmw_153 : lm_cP 153 := by rfl
theorem lmw_154 : lm_cP 154 := by rfl
theorem lmw_155 : lm_cP 155 := by rfl
theorem lmw_156 : lm_cP 156 := by rfl
theorem lmw_157 : lm_cP 157 := by rfl
theorem lmw_158 : lm_cP 158 := by rfl
theorem lmw_159 : lm_cP 159 := by rfl
theorem lmw_160 : lm_cP 160 := by rfl
theorem lmw_161 : lm_cP 161 := by rfl
theorem lmw_162 : lm_cP 162 := by rfl
theorem lmw_163 : lm_cP 163 := by rfl
theorem lmw_164 : lm_cP 164 := by rfl
theorem lmw_165 : lm_cP 165 := by rfl
theorem lmw_166 : lm_cP 166 := by rfl
theorem lmw_167 : lm_cP 167 := by rfl
theorem lmw_168 : lm_cP 168 := by rfl
theorem lmw_169 : lm_cP 169 := by rfl
theorem lmw_170 : lm_cP 170 := by rfl
theorem lmw_171 : lm_cP 171 := by rfl
theorem lmw_172 : lm_cP 172 := by rfl
theorem lmw_173 : lm_cP 173 := by rfl
theorem lmw_174 : lm_cP 174 := by rfl
theorem lmw_175 : lm_cP 175 := by rfl
theorem lmw_176 : lm_cP 176 := by rfl
theorem lmw_177 : lm_cP 177 := by rfl
theorem lmw_178 : lm_cP 178 := by rfl
theorem lmw_179 : lm_cP 179 := by rfl
theorem lmw_180 : lm_cP 180 := by rfl
theorem lmw_181 : lm_cP 181 := by rfl
theorem lmw_182 : lm_cP 182 := by rfl
theorem lmw_183 : lm_cP 183 := by rfl
theorem lmw_184 : lm_cP 184 := by rfl
theorem lmw_185 : lm_cP 185 := by rfl
theorem lmw_186 : lm_cP 186 := by rfl
theorem lmw_187 : lm_cP 187 := by rfl
theorem lmw_188 : lm_cP 188 := by rfl
theorem lmw_189 : lm_cP 189 := by rfl
theorem lmw_190 : lm_cP 190 := by rfl
theorem lmw_191 : lm_cP 191 := by rfl
theorem lmw_192 : lm_cP 192 := by rfl
theorem lmw_193 : lm_cP 193 := by rfl
theorem lmw_194 : lm_cP 194 := by rfl
theorem lmw_195 : lm_cP 195 := by rfl
theorem lmw_196 : lm_cP 196 := by rfl
theorem lmw_197 : lm_cP 197 := by rfl
theorem lmw_198 : lm_cP 198 := by rfl
theorem lmw_199 : lm_cP 199 := by rfl
theorem lmw_200 : lm_cP 200 := by rfl
theorem lmw_201 : lm_cP 201 := by rfl
theorem lmw_202 : lm_cP 202 := by rfl
theorem lmw_203 : lm_cP 203 := by rfl
theorem lmw_204 : lm_cP 204 := by rfl
theorem lmw_205 : lm_cP 205 := by rfl
theorem lmw_206 : lm_cP 206 := by rfl
theorem lmw_207 : lm_cP 207 := by rfl
theorem lmw_208 : lm_cP 208 := by rfl
theorem lmw_209 : lm_cP 209 := by rfl
theorem lmw_210 : lm_cP 210 := by rfl
theorem lmw_211 : lm_cP 211 := by rfl
theorem lmw_212 : lm_cP 212 := by rfl
theorem lmw_213 : lm_cP 213 := by rfl
theorem lmw_214 : lm_cP 214 := by rfl
theorem lmw_215 : lm_cP 215 := by rfl
theorem lmw_216 : lm_cP 216 := by rfl
theorem lmw_217 : lm_cP 217 := by rfl
theorem lmw_218 : lm_cP 218 := by rfl
theorem lmw_219 : lm_cP 219 := by rfl
theorem lmw_220 : lm_cP 220 := by rfl
theorem lmw_221 : lm_cP 221 := by rfl
theorem lmw_222 : lm_cP 222 := by rfl
theorem lmw_223 : lm_cP 223 := by rfl
theorem lmw_224 : lm_cP 224 := by rfl
theorem lmw_225 : lm_cP 225 := by rfl
theorem lmw_226 : lm_cP 226 := by rfl
theorem lmw_227 : lm_cP 227 := by rfl
theorem lmw_228 : lm_cP 228 := by rfl
theorem lmw_229 : lm_cP 229 := by rfl
theorem lmw_230 : lm_cP 230 := by rfl
theorem lmw_231 : lm_cP 231 := by rfl
theorem lmw_232 : lm_cP 232 := by rfl
theorem lmw_233 : lm_cP 233 := by rfl
theorem lmw_234 : lm_cP 234 := by rfl
theorem lmw_235 : lm_cP 235 := by rfl
theorem lmw_236 : lm_cP 236 := by rfl
theorem lmw_237 : lm_cP 237 := by rfl
theorem lmw_238 : lm_cP 238 := by rfl
theorem lmw_239 : lm_cP 239 := by rfl
theorem lmw_240 : lm_cP 240 := by rfl
theorem lmw_241 : lm_cP 241 := by rfl
theorem lmw_242 : lm_cP 242 := by rfl
theorem lmw_243 : lm_cP 243 := by rfl
theorem lmw_244 : lm_cP 244 := by rfl
theorem lmw_245 : lm_cP 245 := by rfl
theorem lmw_246 : lm_cP 246 := by rfl
theorem lmw_247 : lm_cP 247 := by rfl
theorem lmw_248 : lm_cP 248 := by rfl
theorem lmw_249 : lm_cP 249 := by rfl
theorem lmw_250 : lm_cP 250 := by rfl
set_option maxRecDepth 4000 in
theorem lmw_251 : lm_cP 251 := by rfl
set_option maxRecDepth 4000 in
theorem lmw_252 : lm_cP 252 := by rfl
set_option maxRecDepth 4000 in
theorem lmw_253 : lm_cP 253 := by rfl
set_option maxRecDepth 4000 in
theorem lmw_254 : lm_cP 254 := by rfl
set_option maxRecDepth 4000 in
theorem lmw_255 : lm_cP 255 := by rfl
set_option maxRecDepth 4000 in
theorem lmw_256 : lm_cP 256 := by rfl
set_option maxRecDepth 4000 in
theorem lmw_257 : lm_cP 257 := by rfl
set_option maxRecDepth 4000 in
theorem lmw_258 : lm_cP 258 := by rfl
set_option maxRecDepth 4000 in
theorem lmw_259 : lm_cP 259 := by rfl
set_option maxRecDepth 4000 in
theorem lmw_260 : lm_cP 260 := by rfl
set_option maxRecDepth 4000 in
theorem lmw_261 : lm_cP 261 := by rfl
set_option maxRecDepth 4000 in
theorem lmw_262 : lm_cP 262 := by rfl
set_option maxRecDepth 4000 in
theorem lmw_263 : lm_cP 263 := by rfl
set_option maxRecDepth 4000 in
theorem lmw_264 : lm_cP 264 := by rfl
set_option maxRecDepth 4000 in
theorem lmw_265 : lm_cP 265 := by rfl
set_option maxRecDepth 4000 in
theorem lmw_266 : lm_cP 266 := by rfl
set_option maxRecDepth 4000 in
theorem lmw_267 : lm_cP 267 := by rfl
set_option maxRecDepth 4000 in
theorem lmw_268 : lm_cP 268 := by rfl
set_option maxRecDepth 4000 in
theorem lmw_269 : lm_cP 269 := by rfl
set_option maxRecDepth 4000 in
theorem lmw_270 : lm_cP 270 := by rfl
set_option maxRecDepth 4000 in
theorem lmw_271 : lm_cP 271 := by rfl
set_option maxRecDepth 4000 in
theorem lmw_272 : lm_cP 272 := by rfl
set_option maxRecDepth 4000 in
theorem lmw_273 : lm_cP 273 := by rfl
set_option maxRecDepth 4000 in
theorem lmw_274 : lm_cP 274 := by rfl
set_option maxRecDepth 4000 in
theorem lmw_275 : lm_cP 275 := by rfl
set_option maxRecDepth 4000 in
theorem lmw_276 : lm_cP 276 := by rfl
set_option maxRecDepth 4000 in
theorem lmw_277 : lm_cP 277 := by rfl
theorem lmwc_30 : ∀ j, j < 30 → lm_cP j := (lm_nS (P := lm_cP) (lm_nS (P := lm_cP) (lm_nS (P := lm_cP) (lm_nS (P := lm_cP) (lm_nS (P := lm_cP) (lm_nS (P := lm_cP) (lm_nS (P := lm_cP) (lm_nS (P := lm_cP) (lm_nS (P := lm_cP) (lm_nS (P := lm_cP) (lm_nS (P := lm_cP) (lm_nS (P := lm_cP) (lm_nS (P := lm_cP) (lm_nS (P := lm_cP) (lm_nS (P := lm_cP) (lm_nS (P := lm_cP) (lm_nS (P := lm_cP) (lm_nS (P := lm_cP) (lm_nS (P := lm_cP) (lm_nS (P := lm_cP) (lm_nS (P := lm_cP) (lm_nS (P := lm_cP) (lm_nS (P := lm_cP) (lm_nS (P := lm_cP) (lm_nS (P := lm_cP) (lm_nS (P := lm_cP) (lm_nS (P := lm_cP) (lm_nS (P := lm_cP) (lm_nS (P := lm_cP) (lm_n1 (P := lm_cP) lmw_0) lmw_1) lmw_2) lmw_3) lmw_4) lmw_5) lmw_6) lmw_7) lmw_8) lmw_9) lmw_10) lmw_11) lmw_12) lmw_13) lmw_14) lmw_15) lmw_16) lmw_17) lmw_18) lmw_19) lmw_20) lmw_21) lmw_22) lmw_23) lmw_24) lmw_25) lmw_26) lmw_27) lmw_28) lmw_29)
theorem lmwc_60 : ∀ j, j < 60 → lm_cP j := (lm_nS (P := lm_cP) (lm_nS (P := lm_cP) (lm_nS (P := lm_cP) (lm_nS (P := lm_cP) (lm_nS (P := lm_cP) (lm_nS (P := lm_cP) (lm_nS (P := lm_cP) (lm_nS (P := lm_cP) (lm_nS (P := lm_cP) (lm_nS (P := lm_cP) (lm_nS (P := lm_cP) (lm_nS (P := lm_cP) (lm_nS (P := lm_cP) (lm_nS (P := lm_cP) (lm_nS (P := lm_cP) (lm_nS (P := lm_cP) (lm_nS (P := lm_cP) (lm_nS (P := lm_cP) (lm_nS (P := lm_cP) (lm_nS (P := lm_cP) (lm_nS (P := lm_cP) (lm_nS (P := lm_cP) (lm_nS (P := lm_cP) (lm_nS (P := lm_cP) (lm_nS (P := lm_cP) (lm_nS (P := lm_cP) (lm_nS (P := lm_cP) (lm_nS (P := lm_cP) (lm_nS (P := lm_cP) (lm_nS (P := lm_cP) lmwc_30 lmw_30) lmw_31) lmw_32) lmw_33) lmw_34) lmw_35) lmw_36) lmw_37) lmw_38) lmw_39) lmw_40) lmw_41) lmw_42) lmw_43) lmw_44) lmw_45) lmw_46) lmw_47) lmw_48) lmw_49) lmw_50) lmw_51) lmw_52) lmw_53) lmw_54) lmw_55) lmw_56) lmw_57) lmw_58) lmw_59)
theorem lmwc_90 : ∀ j, j < 90 → lm_cP j := (lm_nS (P := lm_cP) (lm_nS (P := lm_cP) (lm_nS (P := lm_cP) (lm_nS (P := lm_cP) (lm_nS (P := lm_cP) (lm_nS (P := lm_cP) (lm_nS (P := lm_cP) (lm_nS (P := lm_cP) (lm_nS (P := lm_cP) (lm_nS (P := lm_cP) (lm_nS (P := lm_cP) (lm_nS (P := lm_cP) (lm_nS (P := lm_cP) (lm_nS (P := lm_cP) (lm_nS (P := lm_cP) (lm_nS (P := lm_cP) (lm_nS (P := lm_cP) (lm_nS (P := lm_cP) (lm_nS (P := lm_cP) (lm_nS (P := lm_cP) (lm_nS (P := lm_cP) (lm_nS (P := lm_cP) (lm_nS (P := lm_cP) (lm_nS (P := lm_cP) (lm_nS (P := lm_cP) (lm_nS (P := lm_cP) (lm_nS (P := lm_cP) (lm_nS (P := lm_cP) (lm_nS (P := lm_cP) (lm_nS (P := lm_cP) lmwc_60 lmw_60) lmw_61) lmw_62) lmw_63) lmw_64) lmw_65) lmw_66) lmw_67) lmw_68) lmw_69) lmw_70) lmw_71) lmw_72) lmw_73) lmw_74) lmw_75) lmw_76) lmw_77) lmw_78) lmw_79) lmw_80) lmw_81) lmw_82) lmw_83) lmw_84) lmw_85) lmw_86) lmw_87) lmw_88) lmw_89)
theorem lmwc_120 : ∀ j, j < 120 → lm_cP j := (lm_nS (P := lm_cP) (lm_nS (P := lm_cP) (lm_nS (P := lm_cP) (lm_nS (P := lm_cP) (lm_nS (P := lm_cP) (lm_nS (P := lm_cP) (lm_nS (P := lm_cP) (lm_nS (P := lm_cP) (lm_nS (P := lm_cP) (lm_nS (P := lm_cP) (lm_nS (P := lm_cP) (lm_nS (P := lm_cP) (lm_nS (P := lm_cP) (lm_nS (P := lm_cP) (lm_nS (P := lm_cP) (lm_nS (P := lm_cP) (lm_nS (P := lm_cP) (lm_nS (P := lm_cP) (lm_nS (P := lm_cP) (lm_nS (P := lm_cP) (lm_nS (P := lm_cP) (lm_nS (P := lm_cP) (lm_nS (P := lm_cP) (lm_nS (P := lm_cP) (lm_nS (P := lm_cP) (lm_nS (P := lm_cP) (lm_nS (P := lm_cP) (lm_nS (P := lm_cP) (lm_nS (P := lm_cP) (lm_nS (P := lm_cP) lmwc_90 lmw_90) lmw_91) lmw_92) lmw_93) lmw_94) lmw_95) lmw_96) lmw_97) lmw_98) lmw_99) lmw_100) lmw_101) lmw_102) lmw_103) lmw_104) lmw_105) lmw_106) lmw_107) lmw_108) lmw_109) lmw_110) lmw_111) lmw_112) lmw_113) lmw_114) lmw_115) lmw_116) lmw_117) lmw_118) lmw_119)
theorem lmwc_150 : ∀ j, j < 150 → lm_cP j := (lm_nS (P := lm_cP) (lm_nS (P := lm_cP) (lm_nS (P := lm_cP) (lm_nS (P := lm_cP) (lm_nS (P := lm_cP) (lm_nS (P := lm_cP) (lm_nS (P := lm_cP) (lm_nS (P := lm_cP) (lm_nS (P := lm_cP) (lm_nS (P := lm_cP) (lm_nS (P := lm_cP) (lm_nS (P := lm_cP) (lm_nS (P := lm_cP) (lm_nS (P := lm_cP) (lm_nS (P := lm_cP) (lm_nS (P := lm_cP) (lm_nS (P := lm_cP) (lm_nS (P := lm_cP) (lm_nS (P := lm_cP) (lm_nS (P := lm_cP) (lm_nS (P := lm_cP) (lm_nS (P := lm_cP) (lm_nS (P := lm_cP) (lm_nS (P := lm_cP) (lm_nS (P := lm_cP) (lm_nS (P := lm_cP) (lm_nS (P := lm_cP) (lm_nS (P := lm_cP) (lm_nS (P := lm_cP) (lm_nS (P := lm_cP) lmwc_120 lmw_120) lmw_121) lmw_122) lmw_123) lmw_124) lmw_125) lmw_126) lmw_127) lmw_128) lmw_129) lmw_130) lmw_131) lmw_132) lmw_133) lmw_134) lmw_135) lmw_136) lmw_137) lmw_138) lmw_139) lmw_140) lmw_141) lmw_142) lmw_143) lmw_144) lmw_145) lmw_146) lmw_147) lmw_148) lmw_149)
theorem lmwc_180 : ∀ j, j < 180 → lm_cP j := (lm_nS (P := lm_cP) (lm_nS (P := lm_cP) (lm_nS (P := lm_cP) (lm_nS (P := lm_cP) (lm_nS (P := lm_cP) (lm_nS (P := lm_cP) (lm_nS (P := lm_cP) (lm_nS (P := lm_cP) (lm_nS (P := lm_cP) (lm_nS (P := lm_cP) (lm_nS (P := lm_cP) (lm_nS (P := lm_cP) (lm_nS (P := lm_cP) (lm_nS (P := lm_cP) (lm_nS (P := lm_cP) (lm_nS (P := lm_cP) (lm_nS (P := lm_cP) (lm_nS (P := lm_cP) (lm_nS (P := lm_cP) (lm_nS (P := lm_cP) (lm_nS (P := lm_cP) (lm_nS (P := lm_cP) (lm_nS (P := lm_cP) (lm_nS (P := lm_cP) (lm_nS (P := lm_cP) (lm_nS (P := lm_cP) (lm_nS (P := lm_cP) (lm_nS (P := lm_cP) (lm_nS (P := lm_cP) (lm_nS (P := lm_cP) lmwc_150 lmw_150) lmw_151) lmw_152) lmw_153) lmw_154) lmw_155) lmw_156) lmw_157) lmw_158) lmw_159) lmw_160) lmw_161) lmw_162) lmw_163) lmw_164) lmw_165) lmw_166) lmw_167) lmw_168) lmw_169) lmw_170) lmw_171) lmw_172) lmw_173) lmw_174) lmw_175) lmw_176) lmw_177) lmw_178) lmw_179)
theorem lmwc_210 : ∀ j, j < 210 → lm_cP j := (lm_nS (P := lm_cP) (lm_nS (P := lm_cP) (lm_nS (P := lm_cP) (lm_nS (P := lm_cP) (lm_nS (P := lm_cP) (lm_nS (P := lm_cP) (lm_nS (P := lm_cP) (lm_nS (P := lm_cP) (lm_nS (P := lm_cP) (lm_nS (P := lm_cP) (lm_nS (P := lm_cP) (lm_nS (P := lm_cP) (lm_nS (P := lm_cP) (lm_nS (P := lm_cP) (lm_nS (P := lm_cP) (lm_nS (P := lm_cP) (lm_nS (P := lm_cP) (lm_nS (P := lm_cP) (lm_nS (P := lm_cP) (lm_nS (P := lm_cP) (lm_nS (P := lm_cP) (lm_nS (P := lm_cP) (lm_nS (P := lm_cP) (lm_nS (P := lm_cP) (lm_nS (P := lm_cP) (lm_nS (P := lm_cP) (lm_nS (P := lm_cP) (lm_nS (P := lm_cP) (lm_nS (P := lm_cP) (lm_nS (P := lm_cP) lmwc_180 lmw_180) lmw_181) lmw_182) lmw_183) lmw_184) lmw_185) lmw_186) lmw_187) lmw_188) lmw_189) lmw_190) lmw_191) lmw_192) lmw_193) lmw_194) lmw_195) lmw_196) lmw_197) lmw_198) lmw_199) lmw_200) lmw_201) lmw_202) lmw_203) lmw_204) lmw_205) lmw_206) lmw_207) lmw_208) lmw_209)
theorem lmwc_240 : ∀ j, j < 240 → lm_cP j := (lm_nS (P := lm_cP) (lm_nS (P := lm_cP) (lm_nS (P := lm_cP) (lm_nS (P := lm_cP) (lm_nS (P := lm_cP) (lm_nS (P := lm_cP) (lm_nS (P := lm_cP) (lm_nS (P := lm_cP) (lm_nS (P := lm_cP) (lm_nS (P := lm_cP) (lm_nS (P := lm_cP) (lm_nS (P := lm_cP) (lm_nS (P := lm_cP) (lm_nS (P := lm_cP) (lm_nS (P := lm_cP) (lm_nS (P := lm_cP) (lm_nS (P := lm_cP) (lm_nS (P := lm_cP) (lm_nS (P := lm_cP) (lm_nS (P := lm_cP) (lm_nS (P := lm_cP) (lm_nS (P := lm_cP) (lm_nS (P := lm_cP) (lm_nS (P := lm_cP) (lm_nS (P := lm_cP) (lm_nS (P := lm_cP) (lm_nS (P := lm_cP) (lm_nS (P := lm_cP) (lm_nS (P := lm_cP) (lm_nS (P := lm_cP) lmwc_210 lmw_210) lmw_211) lmw_212) lmw_213) lmw_214) lmw_215) lmw_216) lmw_217) lmw_218) lmw_219) lmw_220) lmw_221) lmw_222) lmw_223) lmw_224) lmw_225) lmw_226) lmw_227) lmw_228) lmw_229) lmw_230) lmw_231) lmw_232) lmw_233) lmw_234) lmw_235) lmw_236) lmw_237) lmw_238) lmw_239)
theorem lmwc_270 : ∀ j, j < 270 → lm_cP j := (lm_nS (P := lm_cP) (lm_nS (P := lm_cP) (lm_nS (P := lm_cP) (lm_nS (P := lm_cP) (lm_nS (P := lm_cP) (lm_nS (P := lm_cP) (lm_nS (P := lm_cP) (lm_nS (P := lm_cP) (lm_nS (P := lm_cP) (lm_nS (P := lm_cP) (lm_nS (P := lm_cP) (lm_nS (P := lm_cP) (lm_nS (P := lm_cP) (lm_nS (P := lm_cP) (lm_nS (P := lm_cP) (lm_nS (P := lm_cP) (lm_nS (P := lm_cP) (lm_nS (P := lm_cP) (lm_nS (P := lm_cP) (lm_nS (P := lm_cP) (lm_nS (P := lm_cP) (lm_nS (P := lm_cP) (lm_nS (P := lm_cP) (lm_nS (P := lm_cP) (lm_nS (P := lm_cP) (lm_nS (P := lm_cP) (lm_nS (P := lm_cP) (lm_nS (P := lm_cP) (lm_nS (P := lm_cP) (lm_nS (P := lm_cP) lmwc_240 lmw_240) lmw_241) lmw_242) lmw_243) lmw_244) lmw_245) lmw_246) lmw_247) lmw_248) lmw_249) lmw_250) lmw_251) lmw_252) lmw_253) lmw_254) lmw_255) lmw_256) lmw_257) lmw_258) lmw_259) lmw_260) lmw_261) lmw_262) lmw_263) lmw_264) lmw_265) lmw_266) lmw_267) lmw_268) lmw_269)
theorem lmwc_278 : ∀ j, j < 278 → lm_cP j := (lm_nS (P := lm_cP) (lm_nS (P := lm_cP) (lm_nS (P := lm_cP) (lm_nS (P := lm_cP) (lm_nS (P := lm_cP) (lm_nS (P := lm_cP) (lm_nS (P := lm_cP) (lm_nS (P := lm_cP) lmwc_270 lmw_270) lmw_271) lmw_272) lmw_273) lmw_274) lmw_275) lmw_276) lmw_277)
theorem lm_as_len : lm_as.length = 279 := by decide +kernel
theorem lm_code_in {j : Nat} (h : j < 278) : Cond.code (lm_ys.getD j ⟨"", "", ""⟩) (lm_cs.getD j ⟨#[]⟩) (lm_ml.getD j 0) (lm_rs.getD j none) ∈ lm_T := lm_wT (lmwc_278 j h) rfl
def lm_okY2 (j : Nat) : Bool := match lm_as[j]? with | none => false | some e => lm_okY j e
theorem lm_asc_0 : (List.range 24).all (fun j => decide (0 + j = 278) || lm_okY2 (0 + j)) = true := by decide +kernel
theorem lm_asc_1 : (List.range 24).all (fun j => decide (24 + j = 278) || lm_okY2 (24 + j)) = true := by decide +kernel
theorem lm_asc_2 : (List.range 24).all (fun j => decide (48 + j = 278) || lm_okY2 (48 + j)) = true := by decide +kernel
theorem lm_asc_3 : (List.range 24).all (fun j => decide (72 + j = 278) || lm_okY2 (72 + j)) = true := by decide +kernel
theorem lm_asc_4 : (List.range 24).all (fun j => decide (96 + j = 278) || lm_okY2 (96 + j)) = true := by decide +kernel
theorem lm_asc_5 : (List.range 24).all (fun j => decide (120 + j = 278) || lm_okY2 (120 + j)) = true := by decide +kernel
theorem lm_asc_6 : (List.range 24).all (fun j => decide (144 + j = 278) || lm_okY2 (144 + j)) = true := by decide +kernel
theorem lm_asc_7 : (List.range 24).all (fun j => decide (168 + j = 278) || lm_okY2 (168 + j)) = true := by decide +kernel
theorem lm_asc_8 : (List.range 24).all (fun j => decide (192 + j = 278) || lm_okY2 (192 + j)) = true := by decide +kernel
theorem lm_asc_9 : (List.range 24).all (fun j => decide (216 + j = 278) || lm_okY2 (216 + j)) = true := by decide +kernel
theorem lm_asc_10 : (List.range 24).all (fun j => decide (240 + j = 278) || lm_okY2 (240 + j)) = true := by decide +kernel
theorem lm_asc_11 : (List.range 15).all (fun j => decide (264 + j = 278) || lm_okY2 (264 + j)) = true := by decide +kernel
theorem lm_as_ok {j : Nat} {e} (he : lm_as[j]? = some e) (hj : j ≠ 278) : lm_okY j e = true := by
  have hl : j < lm_as.length := (List.getElem?_eq_some_iff.mp he).1
  have hl : j < 279 := by rw [← lm_as_len]; exact hl
  have h2 : lm_okY2 j = true := by
    by_cases h0 : j < 24
    · have h := List.all_eq_true.mp lm_asc_0 (j - 0) (List.mem_range.mpr (by omega))
      rw [show 0 + (j - 0) = j by omega] at h
      simpa [hj] using h
    by_cases h1 : j < 48
    · have h := List.all_eq_true.mp lm_asc_1 (j - 24) (List.mem_range.mpr (by omega))
      rw [show 24 + (j - 24) = j by omega] at h
      simpa [hj] using h
    by_cases h2 : j < 72
    · have h := List.all_eq_true.mp lm_asc_2 (j - 48) (List.mem_range.mpr (by omega))
      rw [show 48 + (j - 48) = j by omega] at h
      simpa [hj] using h
    by_cases h3 : j < 96
    · have h := List.all_eq_true.mp lm_asc_3 (j - 72) (List.mem_range.mpr (by omega))
      rw [show 72 + (j - 72) = j by omega] at h
      simpa [hj] using h
    by_cases h4 : j < 120
    · have h := List.all_eq_true.mp lm_asc_4 (j - 96) (List.mem_range.mpr (by omega))
      rw [show 96 + (j - 96) = j by omega] at h
      simpa [hj] using h
    by_cases h5 : j < 144
    · have h := List.all_eq_true.mp lm_asc_5 (j - 120) (List.mem_range.mpr (by omega))
      rw [show 120 + (j - 120) = j by omega] at h
      simpa [hj] using h
    by_cases h6 : j < 168
    · have h := List.all_eq_true.mp lm_asc_6 (j - 144) (List.mem_range.mpr (by omega))
      rw [show 144 + (j - 144) = j by omega] at h
      simpa [hj] using h
    by_cases h7 : j < 192
    · have h := List.all_eq_true.mp lm_asc_7 (j - 168) (List.mem_range.mpr (by omega))
      rw [show 168 + (j - 168) = j by omega] at h
      simpa [hj] using h
    by_cases h8 : j < 216
    · have h := List.all_eq_true.mp lm_asc_8 (j - 192) (List.mem_range.mpr (by omega))
      rw [show 192 + (j - 192) = j by omega] at h
      simpa [hj] using h
    by_cases h9 : j < 240
    · have h := List.all_eq_true.mp lm_asc_9 (j - 216) (List.mem_range.mpr (by omega))
      rw [show 216 + (j - 216) = j by omega] at h
      simpa [hj] using h
    by_cases h10 : j < 264
    · have h := List.all_eq_true.mp lm_asc_10 (j - 240) (List.mem_range.mpr (by omega))
      rw [show 240 + (j - 240) = j by omega] at h
      simpa [hj] using h
    by_cases h11 : j < 279
    · have h := List.all_eq_true.mp lm_asc_11 (j - 264) (List.mem_range.mpr (by omega))
      rw [show 264 + (j - 264) = j by omega] at h
      simpa [hj] using h
    omega
  unfold lm_okY2 at h2
  rw [he] at h2
  exact h2

