def ro_FU : Nat := 200000
def ro_loop {S E : Type} (b : (S → Option E) → S → Option E) : Nat → S → Option E
  | 0 => fun _ => none
  | n + 1 => b (ro_loop b n)
theorem ro_loopX {S E : Type} {b : (S → Option E) → S → Option E} {X : S → Prop} {OK : E → Prop} (hs : ∀ (rec : S → Option E) (s : S) (q : E), (∀ (s : S) (q : E), rec s = some q → OK q → X s) → b rec s = some q → OK q → X s) : ∀ (n : Nat) (s : S) (q : E), ro_loop b n s = some q → OK q → X s := by
  intro n
  induction n with
  | zero => intro s q h _; cases h
  | succ n ih => intro s q h ho; exact hs _ s q ih h ho
theorem sh_0 : ro_sh 0 = (0, 11) := by decide +kernel
theorem sh_1 : ro_sh 1 = (0, 9) := by decide +kernel
theorem sh_2 : ro_sh 2 = (0, 1) := by decide +kernel
theorem sh_3 : ro_sh 3 = (2, 96) := by decide +kernel
theorem sh_4 : ro_sh 4 = (1, 96) := by decide +kernel
theorem sh_5 : ro_sh 5 = (1, 96) := by decide +kernel
theorem sh_6 : ro_sh 6 = (1, 16) := by decide +kernel
theorem sh_7 : ro_sh 7 = (1, 16) := by decide +kernel
theorem sh_8 : ro_sh 8 = (1, 16) := by decide +kernel
theorem sh_9 : ro_sh 9 = (1, 4) := by decide +kernel
theorem sh_10 : ro_sh 10 = (1, 10) := by decide +kernel
theorem sh_11 : ro_sh 11 = (1, 40) := by decide +kernel
theorem sh_12 : ro_sh 12 = (1, 10) := by decide +kernel
theorem sh_13 : ro_sh 13 = (1, 16) := by decide +kernel
theorem sh_14 : ro_sh 14 = (1, 32) := by decide +kernel
theorem sh_15 : ro_sh 15 = (0, 5) := by decide +kernel
theorem sh_16 : ro_sh 16 = (1, 32) := by decide +kernel
theorem sh_17 : ro_sh 17 = (1, 32) := by decide +kernel
theorem sh_18 : ro_sh 18 = (1, 32) := by decide +kernel
theorem sh_19 : ro_sh 19 = (1, 32) := by decide +kernel
theorem sh_20 : ro_sh 20 = (1, 32) := by decide +kernel
theorem sh_21 : ro_sh 21 = (0, 2) := by decide +kernel
theorem sh_22 : ro_sh 22 = (1, 200) := by decide +kernel
theorem sh_23 : ro_sh 23 = (1, 200) := by decide +kernel
theorem sh_24 : ro_sh 24 = (1, 14) := by decide +kernel
theorem sh_25 : ro_sh 25 = (1, 14) := by decide +kernel
theorem sh_26 : ro_sh 26 = (1, 14) := by decide +kernel
theorem sh_27 : ro_sh 27 = (1, 14) := by decide +kernel
theorem sh_28 : ro_sh 28 = (1, 12) := by decide +kernel
theorem sh_29 : ro_sh 29 = (1, 32) := by decide +kernel
theorem sh_30 : ro_sh 30 = (1, 4) := by decide +kernel
theorem sh_31 : ro_sh 31 = (0, 1) := by decide +kernel
theorem sh_32 : ro_sh 32 = (2, 96) := by decide +kernel
theorem sh_33 : ro_sh 33 = (1, 96) := by decide +kernel
theorem sh_34 : ro_sh 34 = (1, 96) := by decide +kernel
theorem sh_35 : ro_sh 35 = (1, 16) := by decide +kernel
theorem sh_36 : ro_sh 36 = (1, 16) := by decide +kernel
theorem sh_37 : ro_sh 37 = (1, 16) := by decide +kernel
theorem sh_38 : ro_sh 38 = (1, 4) := by decide +kernel
theorem sh_39 : ro_sh 39 = (1, 10) := by decide +kernel
theorem sh_40 : ro_sh 40 = (1, 40) := by decide +kernel
theorem sh_41 : ro_sh 41 = (1, 10) := by decide +kernel
theorem sh_42 : ro_sh 42 = (1, 16) := by decide +kernel
theorem sh_43 : ro_sh 43 = (1, 32) := by decide +kernel
theorem sh_44 : ro_sh 44 = (0, 5) := by decide +kernel
theorem sh_45 : ro_sh 45 = (1, 32) := by decide +kernel
theorem sh_46 : ro_sh 46 = (1, 32) := by decide +kernel
theorem sh_47 : ro_sh 47 = (1, 32) := by decide +kernel
theorem sh_48 : ro_sh 48 = (1, 32) := by decide +kernel
theorem sh_49 : ro_sh 49 = (1, 32) := by decide +kernel
theorem sh_50 : ro_sh 50 = (0, 3) := by decide +kernel
theorem sh_51 : ro_sh 51 = (0, 2) := by decide +kernel
theorem sh_52 : ro_sh 52 = (1, 200) := by decide +kernel
theorem sh_53 : ro_sh 53 = (1, 200) := by decide +kernel
theorem sh_54 : ro_sh 54 = (1, 14) := by decide +kernel
theorem sh_55 : ro_sh 55 = (1, 14) := by decide +kernel
theorem sh_56 : ro_sh 56 = (1, 14) := by decide +kernel
theorem sh_57 : ro_sh 57 = (1, 14) := by decide +kernel
theorem sh_58 : ro_sh 58 = (1, 12) := by decide +kernel
theorem sh_59 : ro_sh 59 = (1, 32) := by decide +kernel
theorem sh_60 : ro_sh 60 = (0, 8) := by decide +kernel
theorem sh_61 : ro_sh 61 = (1, 220) := by decide +kernel
theorem sh_62 : ro_sh 62 = (0, 0) := by decide +kernel
theorem sh_63 : ro_sh 63 = (1, 512) := by decide +kernel
theorem sh_64 : ro_sh 64 = (1, 512) := by decide +kernel
theorem sh_65 : ro_sh 65 = (1, 384) := by decide +kernel
theorem sh_66 : ro_sh 66 = (1, 32) := by decide +kernel
theorem sh_67 : ro_sh 67 = (1, 16) := by decide +kernel
theorem sh_68 : ro_sh 68 = (1, 96) := by decide +kernel
theorem sh_69 : ro_sh 69 = (0, 6) := by decide +kernel
theorem sh_70 : ro_sh 70 = (1, 8) := by decide +kernel
theorem sh_71 : ro_sh 71 = (1, 256) := by decide +kernel
theorem sh_72 : ro_sh 72 = (1, 8) := by decide +kernel
theorem sh_73 : ro_sh 73 = (1, 8) := by decide +kernel
theorem sh_74 : ro_sh 74 = (1, 8) := by decide +kernel
theorem sh_75 : ro_sh 75 = (1, 8) := by decide +kernel
theorem sh_76 : ro_sh 76 = (0, 4) := by decide +kernel
theorem sh_77 : ro_sh 77 = (4, 40) := by decide +kernel
theorem sh_78 : ro_sh 78 = (1, 40) := by decide +kernel
theorem sh_79 : ro_sh 79 = (0, 10) := by decide +kernel
theorem sh_80 : ro_sh 80 = (1, 16) := by decide +kernel
theorem sh_81 : ro_sh 81 = (1, 16) := by decide +kernel
theorem sh_82 : ro_sh 82 = (0, 10) := by decide +kernel
theorem sh_83 : ro_sh 83 = (1, 16) := by decide +kernel
theorem sh_84 : ro_sh 84 = (1, 16) := by decide +kernel
theorem sh_85 : ro_sh 85 = (0, 10) := by decide +kernel
theorem sh_86 : ro_sh 86 = (1, 16) := by decide +kernel
theorem sh_87 : ro_sh 87 = (1, 16) := by decide +kernel
theorem sh_88 : ro_sh 88 = (0, 10) := by decide +kernel
theorem sh_89 : ro_sh 89 = (1, 16) := by decide +kernel
theorem sh_90 : ro_sh 90 = (1, 16) := by decide +kernel
theorem sh_91 : ro_sh 91 = (0, 10) := by decide +kernel
theorem sh_92 : ro_sh 92 = (1, 16) := by decide +kernel
theorem sh_93 : ro_sh 93 = (1, 16) := by decide +kernel
theorem sh_94 : ro_sh 94 = (0, 10) := by decide +kernel
theorem sh_95 : ro_sh 95 = (1, 16) := by decide +kernel
theorem sh_96 : ro_sh 96 = (1, 16) := by decide +kernel
theorem sh_97 : ro_sh 97 = (0, 10) := by decide +kernel
theorem sh_98 : ro_sh 98 = (1, 16) := by decide +kernel
theorem sh_99 : ro_sh 99 = (1, 16) := by decide +kernel
theorem sh_100 : ro_sh 100 = (0, 10) := by decide +kernel
theorem sh_101 : ro_sh 101 = (1, 16) := by decide +kernel
theorem sh_102 : ro_sh 102 = (1, 16) := by decide +kernel
theorem sh_103 : ro_sh 103 = (0, 10) := by decide +kernel
theorem sh_104 : ro_sh 104 = (1, 16) := by decide +kernel
theorem sh_105 : ro_sh 105 = (1, 16) := by decide +kernel
theorem sh_106 : ro_sh 106 = (0, 10) := by decide +kernel
theorem sh_107 : ro_sh 107 = (1, 16) := by decide +kernel
theorem sh_108 : ro_sh 108 = (1, 16) := by decide +kernel
theorem sh_109 : ro_sh 109 = (0, 10) := by decide +kernel
theorem sh_110 : ro_sh 110 = (1, 16) := by decide +kernel
theorem sh_111 : ro_sh 111 = (1, 16) := by decide +kernel
theorem sh_112 : ro_sh 112 = (0, 10) := by decide +kernel
theorem sh_113 : ro_sh 113 = (1, 16) := by decide +kernel
theorem sh_114 : ro_sh 114 = (1, 16) := by decide +kernel
theorem sh_115 : ro_sh 115 = (0, 10) := by decide +kernel
theorem sh_116 : ro_sh 116 = (1, 16) := by decide +kernel
theorem sh_117 : ro_sh 117 = (1, 16) := by decide +kernel
theorem sh_118 : ro_sh 118 = (0, 10) := by decide +kernel
theorem sh_119 : ro_sh 119 = (1, 16) := by decide +kernel
theorem sh_120 : ro_sh 120 = (1, 16) := by decide +kernel
theorem sh_121 : ro_sh 121 = (0, 10) := by decide +kernel
theorem sh_122 : ro_sh 122 = (1, 16) := by decide +kernel
theorem sh_123 : ro_sh 123 = (1, 16) := by decide +kernel
theorem sh_124 : ro_sh 124 = (0, 10) := by decide +kernel
theorem sh_125 : ro_sh 125 = (1, 16) := by decide +kernel
theorem sh_126 : ro_sh 126 = (1, 16) := by decide +kernel
theorem sh_127 : ro_sh 127 = (0, 10) := by decide +kernel
theorem sh_128 : ro_sh 128 = (1, 16) := by decide +kernel
theorem sh_129 : ro_sh 129 = (1, 16) := by decide +kernel
theorem sh_130 : ro_sh 130 = (0, 10) := by decide +kernel
theorem sh_131 : ro_sh 131 = (1, 16) := by decide +kernel
theorem sh_132 : ro_sh 132 = (1, 16) := by decide +kernel
theorem sh_133 : ro_sh 133 = (0, 10) := by decide +kernel
theorem sh_134 : ro_sh 134 = (1, 16) := by decide +kernel
theorem sh_135 : ro_sh 135 = (1, 16) := by decide +kernel
theorem sh_136 : ro_sh 136 = (0, 10) := by decide +kernel
theorem sh_137 : ro_sh 137 = (1, 16) := by decide +kernel
theorem sh_138 : ro_sh 138 = (1, 16) := by decide +kernel
theorem sh_139 : ro_sh 139 = (0, 10) := by decide +kernel
theorem sh_140 : ro_sh 140 = (1, 16) := by decide +kernel
theorem sh_141 : ro_sh 141 = (1, 16) := by decide +kernel
theorem sh_142 : ro_sh 142 = (0, 10) := by decide +kernel
theorem sh_143 : ro_sh 143 = (1, 16) := by decide +kernel
theorem sh_144 : ro_sh 144 = (1, 16) := by decide +kernel
theorem sh_145 : ro_sh 145 = (0, 10) := by decide +kernel
theorem sh_146 : ro_sh 146 = (1, 16) := by decide +kernel
theorem sh_147 : ro_sh 147 = (1, 16) := by decide +kernel
theorem sh_148 : ro_sh 148 = (0, 10) := by decide +kernel
theorem sh_149 : ro_sh 149 = (1, 16) := by decide +kernel
theorem sh_150 : ro_sh 150 = (1, 16) := by decide +kernel
theorem sh_151 : ro_sh 151 = (0, 10) := by decide +kernel
theorem sh_152 : ro_sh 152 = (1, 16) := by decide +kernel
theorem sh_153 : ro_sh 153 = (1, 16) := by decide +kernel
theorem sh_154 : ro_sh 154 = (0, 10) := by decide +kernel
theorem sh_155 : ro_sh 155 = (1, 16) := by decide +kernel
theorem sh_156 : ro_sh 156 = (1, 16) := by decide +kernel
theorem sh_157 : ro_sh 157 = (0, 10) := by decide +kernel
theorem sh_158 : ro_sh 158 = (1, 16) := by decide +kernel
theorem sh_159 : ro_sh 159 = (1, 16) := by decide +kernel
theorem sh_160 : ro_sh 160 = (0, 10) := by decide +kernel
theorem sh_161 : ro_sh 161 = (1, 16) := by decide +kernel
theorem sh_162 : ro_sh 162 = (1, 16) := by decide +kernel
theorem sh_163 : ro_sh 163 = (0, 10) := by decide +kernel
theorem sh_164 : ro_sh 164 = (1, 16) := by decide +kernel
theorem sh_165 : ro_sh 165 = (1, 16) := by decide +kernel
theorem sh_166 : ro_sh 166 = (0, 10) := by decide +kernel
theorem sh_167 : ro_sh 167 = (1, 16) := by decide +kernel
theorem sh_168 : ro_sh 168 = (1, 16) := by decide +kernel
theorem sh_169 : ro_sh 169 = (0, 10) := by decide +kernel
theorem sh_170 : ro_sh 170 = (1, 16) := by decide +kernel
theorem sh_171 : ro_sh 171 = (1, 16) := by decide +kernel
theorem sh_172 : ro_sh 172 = (0, 10) := by decide +kernel
theorem sh_173 : ro_sh 173 = (1, 16) := by decide +kernel
theorem sh_174 : ro_sh 174 = (1, 16) := by decide +kernel
theorem sh_175 : ro_sh 175 = (0, 10) := by decide +kernel
theorem sh_176 : ro_sh 176 = (1, 16) := by decide +kernel
theorem sh_177 : ro_sh 177 = (1, 16) := by decide +kernel
theorem sh_178 : ro_sh 178 = (0, 10) := by decide +kernel
theorem sh_179 : ro_sh 179 = (1, 16) := by decide +kernel
theorem sh_180 : ro_sh 180 = (1, 16) := by decide +kernel
theorem sh_181 : ro_sh 181 = (0, 10) := by decide +kernel
theorem sh_182 : ro_sh 182 = (1, 16) := by decide +kernel
theorem sh_183 : ro_sh 183 = (1, 16) := by decide +kernel
theorem sh_184 : ro_sh 184 = (0, 10) := by decide +kernel
theorem sh_185 : ro_sh 185 = (1, 16) := by decide +kernel
theorem sh_186 : ro_sh 186 = (1, 16) := by decide +kernel
theorem sh_187 : ro_sh 187 = (0, 10) := by decide +kernel
theorem sh_188 : ro_sh 188 = (1, 16) := by decide +kernel
theorem sh_189 : ro_sh 189 = (1, 16) := by decide +kernel
theorem sh_190 : ro_sh 190 = (0, 10) := by decide +kernel
theorem sh_191 : ro_sh 191 = (1, 16) := by decide +kernel
theorem sh_192 : ro_sh 192 = (1, 16) := by decide +kernel
theorem sh_193 : ro_sh 193 = (0, 10) := by decide +kernel
theorem sh_194 : ro_sh 194 = (1, 16) := by decide +kernel
theorem sh_195 : ro_sh 195 = (1, 16) := by decide +kernel
theorem sh_196 : ro_sh 196 = (0, 10) := by decide +kernel
theorem sh_197 : ro_sh 197 = (1, 16) := by decide +kernel
theorem sh_198 : ro_sh 198 = (1, 16) := by decide +kernel
theorem sh_199 : ro_sh 199 = (0, 7) := by decide +kernel
theorem sh_200 : ro_sh 200 = (1, 20) := by decide +kernel
theorem sh_201 : ro_sh 201 = (1, 20) := by decide +kernel
theorem sh_202 : ro_sh 202 = (1, 20) := by decide +kernel
theorem sh_203 : ro_sh 203 = (1, 260) := by decide +kernel
theorem sh_204 : ro_sh 204 = (0, 10) := by decide +kernel
theorem sh_205 : ro_sh 205 = (1, 32) := by decide +kernel
theorem sh_206 : ro_sh 206 = (1, 32) := by decide +kernel
theorem sh_207 : ro_sh 207 = (0, 12) := by decide +kernel
theorem sh_208 : ro_sh 208 = (2, 96) := by decide +kernel
theorem sh_209 : ro_sh 209 = (1, 96) := by decide +kernel
theorem sh_210 : ro_sh 210 = (1, 96) := by decide +kernel
theorem sh_211 : ro_sh 211 = (1, 16) := by decide +kernel
theorem sh_212 : ro_sh 212 = (1, 16) := by decide +kernel
theorem sh_213 : ro_sh 213 = (1, 16) := by decide +kernel
theorem sh_214 : ro_sh 214 = (1, 4) := by decide +kernel
theorem sh_215 : ro_sh 215 = (1, 10) := by decide +kernel
theorem sh_216 : ro_sh 216 = (1, 40) := by decide +kernel
theorem sh_217 : ro_sh 217 = (3, 220) := by decide +kernel
theorem sh_218 : ro_sh 218 = (1, 32) := by decide +kernel
theorem sh_219 : ro_sh 219 = (1, 32) := by decide +kernel
theorem sh_220 : ro_sh 220 = (1, 32) := by decide +kernel
theorem sh_221 : ro_sh 221 = (1, 32) := by decide +kernel
theorem sh_222 : ro_sh 222 = (1, 32) := by decide +kernel
theorem sh_223 : ro_sh 223 = (1, 32) := by decide +kernel
theorem sh_224 : ro_sh 224 = (1, 32) := by decide +kernel
theorem sh_225 : ro_sh 225 = (1, 32) := by decide +kernel
theorem sh_226 : ro_sh 226 = (1, 32) := by decide +kernel
theorem sh_227 : ro_sh 227 = (1, 32) := by decide +kernel
theorem sh_228 : ro_sh 228 = (1, 220) := by decide +kernel
theorem sh_229 : ro_sh 229 = (1, 220) := by decide +kernel
theorem sh_230 : ro_sh 230 = (1, 14) := by decide +kernel
theorem sh_231 : ro_sh 231 = (1, 14) := by decide +kernel
theorem sh_232 : ro_sh 232 = (1, 14) := by decide +kernel
theorem sh_233 : ro_sh 233 = (1, 14) := by decide +kernel
theorem sh_234 : ro_sh 234 = (1, 220) := by decide +kernel
theorem sh_235 : ro_sh 235 = (1, 14) := by decide +kernel
theorem sh_236 : ro_sh 236 = (1, 14) := by decide +kernel
theorem sh_237 : ro_sh 237 = (1, 14) := by decide +kernel
theorem sh_238 : ro_sh 238 = (1, 14) := by decide +kernel
theorem sh_239 : ro_sh 239 = (1, 220) := by decide +kernel
theorem sh_240 : ro_sh 240 = (1, 12) := by decide +kernel
theorem sh_241 : ro_sh 241 = (1, 512) := by decide +kernel
theorem sh_242 : ro_sh 242 = (2, 512) := by decide +kernel
theorem sh_243 : ro_sh 243 = (1, 96) := by decide +kernel
theorem sh_244 : ro_sh 244 = (1, 384) := by decide +kernel
theorem sh_245 : ro_sh 245 = (1, 32) := by decide +kernel
theorem sh_246 : ro_sh 246 = (1, 16) := by decide +kernel
theorem sh_247 : ro_sh 247 = (1, 8) := by decide +kernel
theorem sh_248 : ro_sh 248 = (1, 8) := by decide +kernel
theorem sh_249 : ro_sh 249 = (1, 8) := by decide +kernel
theorem sh_250 : ro_sh 250 = (1, 2304) := by decide +kernel
theorem sh_251 : ro_sh 251 = (1, 32) := by decide +kernel
theorem sh_252 : ro_sh 252 = (1, 640) := by decide +kernel
theorem sh_253 : ro_sh 253 = (1, 40) := by decide +kernel
theorem sh_254 : ro_sh 254 = (1, 240) := by decide +kernel
theorem sh_255 : ro_sh 255 = (1, 20) := by decide +kernel
theorem sh_256 : ro_sh 256 = (1, 20) := by decide +kernel
theorem sh_257 : ro_sh 257 = (1, 10) := by decide +kernel
theorem sh_258 : ro_sh 258 = (1, 16) := by decide +kernel
theorem sh_259 : ro_sh 259 = (1, 32) := by decide +kernel
theorem sh_260 : ro_sh 260 = (1, 96) := by decide +kernel
theorem sh_261 : ro_sh 261 = (2, 96) := by decide +kernel
theorem sh_262 : ro_sh 262 = (1, 96) := by decide +kernel
theorem sh_263 : ro_sh 263 = (1, 96) := by decide +kernel
theorem sh_264 : ro_sh 264 = (1, 16) := by decide +kernel
theorem sh_265 : ro_sh 265 = (1, 16) := by decide +kernel
theorem sh_266 : ro_sh 266 = (1, 16) := by decide +kernel
theorem sh_267 : ro_sh 267 = (1, 4) := by decide +kernel
theorem sh_268 : ro_sh 268 = (1, 10) := by decide +kernel
theorem sh_269 : ro_sh 269 = (1, 40) := by decide +kernel
theorem sh_270 : ro_sh 270 = (1, 10) := by decide +kernel
theorem sh_271 : ro_sh 271 = (1, 16) := by decide +kernel
theorem sh_272 : ro_sh 272 = (1, 32) := by decide +kernel
theorem sh_all {c : Nat} {b : Nat → Bool} (hp : (List.range NID).all (fun o => !(ro_sh o == (0, c)) || b o) = true) {o : Nat} (h : ro_sh o = (0, c)) : b o = true := by
  have hl := ro_sh_lt h (by decide)
  have h1 := List.all_eq_true.mp hp o (List.mem_range.mpr hl)
  rw [h] at h1
  simpa using h1
theorem so_1_1 {o : Nat} (h : ro_sh o = (0, 1)) : ro_sh (o + 1) = (2, 96) := of_decide_eq_true (sh_all (b := fun o => decide (ro_sh (o + 1) = (2, 96))) (by decide +kernel) h)
theorem so_1_2 {o : Nat} (h : ro_sh o = (0, 1)) : ro_sh (o + 2) = (1, 96) := of_decide_eq_true (sh_all (b := fun o => decide (ro_sh (o + 2) = (1, 96))) (by decide +kernel) h)
theorem so_1_3 {o : Nat} (h : ro_sh o = (0, 1)) : ro_sh (o + 3) = (1, 96) := of_decide_eq_true (sh_all (b := fun o => decide (ro_sh (o + 3) = (1, 96))) (by decide +kernel) h)
theorem so_1_4 {o : Nat} (h : ro_sh o = (0, 1)) : ro_sh (o + 4) = (1, 16) := of_decide_eq_true (sh_all (b := fun o => decide (ro_sh (o + 4) = (1, 16))) (by decide +kernel) h)
theorem so_1_5 {o : Nat} (h : ro_sh o = (0, 1)) : ro_sh (o + 5) = (1, 16) := of_decide_eq_true (sh_all (b := fun o => decide (ro_sh (o + 5) = (1, 16))) (by decide +kernel) h)
theorem so_1_6 {o : Nat} (h : ro_sh o = (0, 1)) : ro_sh (o + 6) = (1, 16) := of_decide_eq_true (sh_all (b := fun o => decide (ro_sh (o + 6) = (1, 16))) (by decide +kernel) h)
theorem so_1_7 {o : Nat} (h : ro_sh o = (0, 1)) : ro_sh (o + 7) = (1, 4) := of_decide_eq_true (sh_all (b := fun o => decide (ro_sh (o + 7) = (1, 4))) (by decide +kernel) h)
theorem so_1_8 {o : Nat} (h : ro_sh o = (0, 1)) : ro_sh (o + 8) = (1, 10) := of_decide_eq_true (sh_all (b := fun o => decide (ro_sh (o + 8) = (1, 10))) (by decide +kernel) h)
theorem so_1_9 {o : Nat} (h : ro_sh o = (0, 1)) : ro_sh (o + 9) = (1, 40) := of_decide_eq_true (sh_all (b := fun o => decide (ro_sh (o + 9) = (1, 40))) (by decide +kernel) h)
theorem so_1_10 {o : Nat} (h : ro_sh o = (0, 1)) : ro_sh (o + 10) = (1, 10) := of_decide_eq_true (sh_all (b := fun o => decide (ro_sh (o + 10) = (1, 10))) (by decide +kernel) h)
theorem so_1_11 {o : Nat} (h : ro_sh o = (0, 1)) : ro_sh (o + 11) = (1, 16) := of_decide_eq_true (sh_all (b := fun o => decide (ro_sh (o + 11) = (1, 16))) (by decide +kernel) h)
theorem so_1_12 {o : Nat} (h : ro_sh o = (0, 1)) : ro_sh (o + 12) = (1, 32) := of_decide_eq_true (sh_all (b := fun o => decide (ro_sh (o + 12) = (1, 32))) (by decide +kernel) h)
theorem so_5_1 {o : Nat} (h : ro_sh o = (0, 5)) : ro_sh (o + 1) = (1, 32) := of_decide_eq_true (sh_all (b := fun o => decide (ro_sh (o + 1) = (1, 32))) (by decide +kernel) h)
theorem so_5_2 {o : Nat} (h : ro_sh o = (0, 5)) : ro_sh (o + 2) = (1, 32) := of_decide_eq_true (sh_all (b := fun o => decide (ro_sh (o + 2) = (1, 32))) (by decide +kernel) h)
theorem so_5_3 {o : Nat} (h : ro_sh o = (0, 5)) : ro_sh (o + 3) = (1, 32) := of_decide_eq_true (sh_all (b := fun o => decide (ro_sh (o + 3) = (1, 32))) (by decide +kernel) h)
theorem so_5_4 {o : Nat} (h : ro_sh o = (0, 5)) : ro_sh (o + 4) = (1, 32) := of_decide_eq_true (sh_all (b := fun o => decide (ro_sh (o + 4) = (1, 32))) (by decide +kernel) h)
theorem so_5_5 {o : Nat} (h : ro_sh o = (0, 5)) : ro_sh (o + 5) = (1, 32) := of_decide_eq_true (sh_all (b := fun o => decide (ro_sh (o + 5) = (1, 32))) (by decide +kernel) h)
theorem so_2_1 {o : Nat} (h : ro_sh o = (0, 2)) : ro_sh (o + 1) = (1, 200) := of_decide_eq_true (sh_all (b := fun o => decide (ro_sh (o + 1) = (1, 200))) (by decide +kernel) h)
theorem so_2_2 {o : Nat} (h : ro_sh o = (0, 2)) : ro_sh (o + 2) = (1, 200) := of_decide_eq_true (sh_all (b := fun o => decide (ro_sh (o + 2) = (1, 200))) (by decide +kernel) h)
theorem so_2_3 {o : Nat} (h : ro_sh o = (0, 2)) : ro_sh (o + 3) = (1, 14) := of_decide_eq_true (sh_all (b := fun o => decide (ro_sh (o + 3) = (1, 14))) (by decide +kernel) h)
theorem so_2_4 {o : Nat} (h : ro_sh o = (0, 2)) : ro_sh (o + 4) = (1, 14) := of_decide_eq_true (sh_all (b := fun o => decide (ro_sh (o + 4) = (1, 14))) (by decide +kernel) h)
theorem so_2_5 {o : Nat} (h : ro_sh o = (0, 2)) : ro_sh (o + 5) = (1, 14) := of_decide_eq_true (sh_all (b := fun o => decide (ro_sh (o + 5) = (1, 14))) (by decide +kernel) h)
theorem so_2_6 {o : Nat} (h : ro_sh o = (0, 2)) : ro_sh (o + 6) = (1, 14) := of_decide_eq_true (sh_all (b := fun o => decide (ro_sh (o + 6) = (1, 14))) (by decide +kernel) h)
theorem so_2_7 {o : Nat} (h : ro_sh o = (0, 2)) : ro_sh (o + 7) = (1, 12) := of_decide_eq_true (sh_all (b := fun o => decide (ro_sh (o + 7) = (1, 12))) (by decide +kernel) h)
theorem so_2_8 {o : Nat} (h : ro_sh o = (0, 2)) : ro_sh (o + 8) = (1, 32) := of_decide_eq_true (sh_all (b := fun o => decide (ro_sh (o + 8) = (1, 32))) (by decide +kernel) h)
theorem so_10_1 {o : Nat} (h : ro_sh o = (0, 10)) : ro_sh (o + 1) = (1, ro_len (o + 1)) := of_decide_eq_true (sh_all (b := fun o => decide (ro_sh (o + 1) = (1, ro_len (o + 1)))) (by decide +kernel) h)
theorem so_10_2 {o : Nat} (h : ro_sh o = (0, 10)) : ro_sh (o + 2) = (1, ro_len (o + 2)) := of_decide_eq_true (sh_all (b := fun o => decide (ro_sh (o + 2) = (1, ro_len (o + 2)))) (by decide +kernel) h)
theorem sh_rows {j : Nat} (h : j < 40) : ro_sh (77 + 2 + 3 * j) = (0, 10) := by
  have h1 : (List.range 40).all (fun j => decide (ro_sh (77 + 2 + 3 * j) = (0, 10))) = true := by decide +kernel
  exact of_decide_eq_true (List.all_eq_true.mp h1 j (List.mem_range.mpr h))
set_option maxRecDepth 20000 in
theorem inw_0 : ∀ w ∈ u_ws RX0 TX0 6, w ∈ ro_WT := ro_inw [309, 311, 313, 315, 317, 319] (by decide +kernel) (by decide +kernel)
set_option maxRecDepth 20000 in
theorem inw_1 : ∀ w ∈ u_ws RX1 TX1 18, w ∈ ro_WT := ro_inw [91, 93, 95, 97, 99, 101, 103, 105, 107, 109, 111, 113, 115, 117, 119, 121, 123, 125] (by decide +kernel) (by decide +kernel)
set_option maxRecDepth 20000 in
theorem inw_2 : ∀ w ∈ u_ws RX2 TX2 10, w ∈ ro_WT := ro_inw [205, 207, 209, 211, 213, 215, 217, 219, 221, 223] (by decide +kernel) (by decide +kernel)
set_option maxRecDepth 20000 in
theorem inw_3 : ∀ w ∈ u_ws RX3 TX3 1, w ∈ ro_WT := ro_inw [260] (by decide +kernel) (by decide +kernel)
set_option maxRecDepth 20000 in
theorem inw_4 : ∀ w ∈ u_ws RX4 TX4 4, w ∈ ro_WT := ro_inw [382, 384, 386, 388] (by decide +kernel) (by decide +kernel)
set_option maxRecDepth 20000 in
theorem inw_5 : ∀ w ∈ u_ws RX5 TX5 8, w ∈ ro_WT := ro_inw [164, 166, 168, 170, 172, 174, 176, 178] (by decide +kernel) (by decide +kernel)
set_option maxRecDepth 20000 in
theorem inw_6 : ∀ w ∈ u_ws RX6 TX6 7, w ∈ ro_WT := ro_inw [338, 340, 342, 344, 346, 348, 350] (by decide +kernel) (by decide +kernel)
set_option maxRecDepth 20000 in
theorem inw_7 : ∀ w ∈ u_ws RX7 TX7 11, w ∈ ro_WT := ro_inw [411, 413, 415, 417, 419, 421, 423, 425, 427, 429, 431] (by decide +kernel) (by decide +kernel)
set_option maxRecDepth 20000 in
theorem inw_8 : ∀ w ∈ u_ws RX8 TX8 5, w ∈ ro_WT := ro_inw [281, 283, 285, 287, 289] (by decide +kernel) (by decide +kernel)
set_option maxRecDepth 20000 in
theorem inw_9 : ∀ w ∈ u_ws RX9 TX9 4, w ∈ ro_WT := ro_inw [237, 239, 241, 243] (by decide +kernel) (by decide +kernel)
set_option maxRecDepth 20000 in
theorem inw_10 : ∀ w ∈ u_ws RX10 TX10 2, w ∈ ro_WT := ro_inw [373, 375] (by decide +kernel) (by decide +kernel)
set_option maxRecDepth 20000 in
theorem inw_11 : ∀ w ∈ u_ws RX11 TX11 12, w ∈ ro_WT := ro_inw [448, 450, 452, 454, 456, 458, 460, 462, 464, 466, 468, 470] (by decide +kernel) (by decide +kernel)
set_option maxRecDepth 20000 in
theorem inw_12 : ∀ w ∈ u_ws RX12 TX12 94, w ∈ ro_WT := ro_inw [1177, 1179, 1181, 1183, 1185, 1187, 1189, 1191, 1193, 1195, 1197, 1199, 1201, 1203, 1205, 1207, 1209, 1211, 1213, 1215, 1217, 1219, 1221, 1223, 1225, 1227, 1229, 1231, 1233, 1235, 1237, 1239, 1241, 1243, 1245, 1247, 1249, 1251, 1253, 1255, 1257, 1259, 1261, 1263, 1265, 1267, 1269, 1271, 1273, 1275, 1277, 1279, 1281, 1283, 1285, 1287, 1289, 1291, 1293, 1295, 1297, 1299, 1301, 1303, 1305, 1307, 1309, 1311, 1313, 1315, 1317, 1319, 1321, 1323, 1325, 1327, 1329, 1331, 1333, 1335, 1337, 1339, 1341, 1343, 1345, 1347, 1349, 1351, 1353, 1355, 1357, 1359, 1361, 1363] (by decide +kernel) (by decide +kernel)
