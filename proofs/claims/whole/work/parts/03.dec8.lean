theorem dX8_init_0 : decode cX8_init 0 = .ok (.aload_n 0, 1) := by decide +kernel
theorem dX8_init_1 : decode cX8_init 1 = .ok (.invokespecial 1, 3) := by decide +kernel
theorem dX8_init_4 : decode cX8_init 4 = .ok (.aload_n 0, 1) := by decide +kernel
theorem dX8_init_5 : decode cX8_init 5 = .ok (.bipush 6, 2) := by decide +kernel
theorem dX8_init_7 : decode cX8_init 7 = .ok (.newarray .int, 2) := by decide +kernel
theorem dX8_init_9 : decode cX8_init 9 = .ok (.putfield 7, 3) := by decide +kernel
theorem dX8_init_12 : decode cX8_init 12 = .ok (.aload_n 0, 1) := by decide +kernel
theorem dX8_init_13 : decode cX8_init 13 = .ok (.bipush 6, 2) := by decide +kernel
theorem dX8_init_15 : decode cX8_init 15 = .ok (.newarray .int, 2) := by decide +kernel
theorem dX8_init_17 : decode cX8_init 17 = .ok (.putfield 13, 3) := by decide +kernel
theorem dX8_init_20 : decode cX8_init 20 = .ok (.aload_n 0, 1) := by decide +kernel
theorem dX8_init_21 : decode cX8_init 21 = .ok (.bipush 6, 2) := by decide +kernel
theorem dX8_init_23 : decode cX8_init 23 = .ok (.newarray .int, 2) := by decide +kernel
theorem dX8_init_25 : decode cX8_init 25 = .ok (.putfield 16, 3) := by decide +kernel
theorem dX8_init_28 : decode cX8_init 28 = .ok (.aload_n 0, 1) := by decide +kernel
theorem dX8_init_29 : decode cX8_init 29 = .ok (.bipush 6, 2) := by decide +kernel
theorem dX8_init_31 : decode cX8_init 31 = .ok (.newarray .int, 2) := by decide +kernel
theorem dX8_init_33 : decode cX8_init 33 = .ok (.putfield 19, 3) := by decide +kernel
theorem dX8_init_36 : decode cX8_init 36 = .ok (.aload_n 0, 1) := by decide +kernel
theorem dX8_init_37 : decode cX8_init 37 = .ok (.bipush 24, 2) := by decide +kernel
theorem dX8_init_39 : decode cX8_init 39 = .ok (.newarray .int, 2) := by decide +kernel
theorem dX8_init_41 : decode cX8_init 41 = .ok (.putfield 22, 3) := by decide +kernel
theorem dX8_init_44 : decode cX8_init 44 = .ok (.aload_n 0, 1) := by decide +kernel
theorem dX8_init_45 : decode cX8_init 45 = .ok (.bipush 24, 2) := by decide +kernel
theorem dX8_init_47 : decode cX8_init 47 = .ok (.newarray .int, 2) := by decide +kernel
theorem dX8_init_49 : decode cX8_init 49 = .ok (.putfield 25, 3) := by decide +kernel
theorem dX8_init_52 : decode cX8_init 52 = .ok (.aload_n 0, 1) := by decide +kernel
theorem dX8_init_53 : decode cX8_init 53 = .ok (.bipush 24, 2) := by decide +kernel
theorem dX8_init_55 : decode cX8_init 55 = .ok (.newarray .int, 2) := by decide +kernel
theorem dX8_init_57 : decode cX8_init 57 = .ok (.putfield 28, 3) := by decide +kernel
theorem dX8_init_60 : decode cX8_init 60 = .ok (.aload_n 0, 1) := by decide +kernel
theorem dX8_init_61 : decode cX8_init 61 = .ok (.bipush 8, 2) := by decide +kernel
theorem dX8_init_63 : decode cX8_init 63 = .ok (.newarray .int, 2) := by decide +kernel
theorem dX8_init_65 : decode cX8_init 65 = .ok (.putfield 31, 3) := by decide +kernel
theorem dX8_init_68 : decode cX8_init 68 = .ok (.aload_n 0, 1) := by decide +kernel
theorem dX8_init_69 : decode cX8_init 69 = .ok (.bipush 8, 2) := by decide +kernel
theorem dX8_init_71 : decode cX8_init 71 = .ok (.newarray .int, 2) := by decide +kernel
theorem dX8_init_73 : decode cX8_init 73 = .ok (.putfield 34, 3) := by decide +kernel
theorem dX8_init_76 : decode cX8_init 76 = .ok (.aload_n 0, 1) := by decide +kernel
theorem dX8_init_77 : decode cX8_init 77 = .ok (.bipush 8, 2) := by decide +kernel
theorem dX8_init_79 : decode cX8_init 79 = .ok (.newarray .int, 2) := by decide +kernel
theorem dX8_init_81 : decode cX8_init 81 = .ok (.putfield 37, 3) := by decide +kernel
theorem dX8_init_84 : decode cX8_init 84 = .ok (.aload_n 0, 1) := by decide +kernel
theorem dX8_init_85 : decode cX8_init 85 = .ok (.bipush 120, 2) := by decide +kernel
theorem dX8_init_87 : decode cX8_init 87 = .ok (.newarray .int, 2) := by decide +kernel
theorem dX8_init_89 : decode cX8_init 89 = .ok (.dup, 1) := by decide +kernel
theorem dX8_init_90 : decode cX8_init 90 = .ok (.iconst 0, 1) := by decide +kernel
theorem dX8_init_91 : decode cX8_init 91 = .ok (.iconst 5, 1) := by decide +kernel
theorem dX8_init_92 : decode cX8_init 92 = .ok (.iastore, 1) := by decide +kernel
theorem dX8_init_93 : decode cX8_init 93 = .ok (.dup, 1) := by decide +kernel
theorem dX8_init_94 : decode cX8_init 94 = .ok (.iconst 1, 1) := by decide +kernel
theorem dX8_init_95 : decode cX8_init 95 = .ok (.iconst 5, 1) := by decide +kernel
theorem dX8_init_96 : decode cX8_init 96 = .ok (.iastore, 1) := by decide +kernel
theorem dX8_init_97 : decode cX8_init 97 = .ok (.dup, 1) := by decide +kernel
theorem dX8_init_98 : decode cX8_init 98 = .ok (.iconst 2, 1) := by decide +kernel
theorem dX8_init_99 : decode cX8_init 99 = .ok (.iconst 5, 1) := by decide +kernel
theorem dX8_init_100 : decode cX8_init 100 = .ok (.iastore, 1) := by decide +kernel
theorem dX8_init_101 : decode cX8_init 101 = .ok (.dup, 1) := by decide +kernel
theorem dX8_init_102 : decode cX8_init 102 = .ok (.iconst 3, 1) := by decide +kernel
theorem dX8_init_103 : decode cX8_init 103 = .ok (.iconst 5, 1) := by decide +kernel
theorem dX8_init_104 : decode cX8_init 104 = .ok (.iastore, 1) := by decide +kernel
theorem dX8_init_105 : decode cX8_init 105 = .ok (.dup, 1) := by decide +kernel
theorem dX8_init_106 : decode cX8_init 106 = .ok (.iconst 4, 1) := by decide +kernel
theorem dX8_init_107 : decode cX8_init 107 = .ok (.iconst 5, 1) := by decide +kernel
theorem dX8_init_108 : decode cX8_init 108 = .ok (.iastore, 1) := by decide +kernel
theorem dX8_init_109 : decode cX8_init 109 = .ok (.dup, 1) := by decide +kernel
theorem dX8_init_110 : decode cX8_init 110 = .ok (.iconst 5, 1) := by decide +kernel
theorem dX8_init_111 : decode cX8_init 111 = .ok (.iconst 5, 1) := by decide +kernel
theorem dX8_init_112 : decode cX8_init 112 = .ok (.iastore, 1) := by decide +kernel
theorem dX8_init_113 : decode cX8_init 113 = .ok (.dup, 1) := by decide +kernel
theorem dX8_init_114 : decode cX8_init 114 = .ok (.bipush 6, 2) := by decide +kernel
theorem dX8_init_116 : decode cX8_init 116 = .ok (.iconst 5, 1) := by decide +kernel
theorem dX8_init_117 : decode cX8_init 117 = .ok (.iastore, 1) := by decide +kernel
theorem dX8_init_118 : decode cX8_init 118 = .ok (.dup, 1) := by decide +kernel
theorem dX8_init_119 : decode cX8_init 119 = .ok (.bipush 7, 2) := by decide +kernel
theorem dX8_init_121 : decode cX8_init 121 = .ok (.iconst 5, 1) := by decide +kernel
theorem dX8_init_122 : decode cX8_init 122 = .ok (.iastore, 1) := by decide +kernel
theorem dX8_init_123 : decode cX8_init 123 = .ok (.dup, 1) := by decide +kernel
theorem dX8_init_124 : decode cX8_init 124 = .ok (.bipush 8, 2) := by decide +kernel
theorem dX8_init_126 : decode cX8_init 126 = .ok (.iconst 5, 1) := by decide +kernel
theorem dX8_init_127 : decode cX8_init 127 = .ok (.iastore, 1) := by decide +kernel
theorem dX8_init_128 : decode cX8_init 128 = .ok (.dup, 1) := by decide +kernel
theorem dX8_init_129 : decode cX8_init 129 = .ok (.bipush 9, 2) := by decide +kernel
theorem dX8_init_131 : decode cX8_init 131 = .ok (.iconst 5, 1) := by decide +kernel
theorem dX8_init_132 : decode cX8_init 132 = .ok (.iastore, 1) := by decide +kernel
theorem dX8_init_133 : decode cX8_init 133 = .ok (.dup, 1) := by decide +kernel
theorem dX8_init_134 : decode cX8_init 134 = .ok (.bipush 10, 2) := by decide +kernel
theorem dX8_init_136 : decode cX8_init 136 = .ok (.iconst 5, 1) := by decide +kernel
theorem dX8_init_137 : decode cX8_init 137 = .ok (.iastore, 1) := by decide +kernel
theorem dX8_init_138 : decode cX8_init 138 = .ok (.dup, 1) := by decide +kernel
theorem dX8_init_139 : decode cX8_init 139 = .ok (.bipush 11, 2) := by decide +kernel
theorem dX8_init_141 : decode cX8_init 141 = .ok (.iconst 5, 1) := by decide +kernel
theorem dX8_init_142 : decode cX8_init 142 = .ok (.iastore, 1) := by decide +kernel
theorem dX8_init_143 : decode cX8_init 143 = .ok (.dup, 1) := by decide +kernel
theorem dX8_init_144 : decode cX8_init 144 = .ok (.bipush 12, 2) := by decide +kernel
theorem dX8_init_146 : decode cX8_init 146 = .ok (.iconst 5, 1) := by decide +kernel
theorem dX8_init_147 : decode cX8_init 147 = .ok (.iastore, 1) := by decide +kernel
theorem dX8_init_148 : decode cX8_init 148 = .ok (.dup, 1) := by decide +kernel
theorem dX8_init_149 : decode cX8_init 149 = .ok (.bipush 13, 2) := by decide +kernel
theorem dX8_init_151 : decode cX8_init 151 = .ok (.iconst 5, 1) := by decide +kernel
theorem dX8_init_152 : decode cX8_init 152 = .ok (.iastore, 1) := by decide +kernel
theorem dX8_init_153 : decode cX8_init 153 = .ok (.dup, 1) := by decide +kernel
theorem dX8_init_154 : decode cX8_init 154 = .ok (.bipush 14, 2) := by decide +kernel
theorem dX8_init_156 : decode cX8_init 156 = .ok (.iconst 5, 1) := by decide +kernel
theorem dX8_init_157 : decode cX8_init 157 = .ok (.iastore, 1) := by decide +kernel
theorem dX8_init_158 : decode cX8_init 158 = .ok (.dup, 1) := by decide +kernel
theorem dX8_init_159 : decode cX8_init 159 = .ok (.bipush 15, 2) := by decide +kernel
theorem dX8_init_161 : decode cX8_init 161 = .ok (.iconst 5, 1) := by decide +kernel
theorem dX8_init_162 : decode cX8_init 162 = .ok (.iastore, 1) := by decide +kernel
theorem dX8_init_163 : decode cX8_init 163 = .ok (.dup, 1) := by decide +kernel
theorem dX8_init_164 : decode cX8_init 164 = .ok (.bipush 16, 2) := by decide +kernel
theorem dX8_init_166 : decode cX8_init 166 = .ok (.iconst 5, 1) := by decide +kernel
theorem dX8_init_167 : decode cX8_init 167 = .ok (.iastore, 1) := by decide +kernel
theorem dX8_init_168 : decode cX8_init 168 = .ok (.dup, 1) := by decide +kernel
theorem dX8_init_169 : decode cX8_init 169 = .ok (.bipush 17, 2) := by decide +kernel
theorem dX8_init_171 : decode cX8_init 171 = .ok (.iconst 5, 1) := by decide +kernel
theorem dX8_init_172 : decode cX8_init 172 = .ok (.iastore, 1) := by decide +kernel
theorem dX8_init_173 : decode cX8_init 173 = .ok (.dup, 1) := by decide +kernel
theorem dX8_init_174 : decode cX8_init 174 = .ok (.bipush 18, 2) := by decide +kernel
theorem dX8_init_176 : decode cX8_init 176 = .ok (.iconst 5, 1) := by decide +kernel
theorem dX8_init_177 : decode cX8_init 177 = .ok (.iastore, 1) := by decide +kernel
theorem dX8_init_178 : decode cX8_init 178 = .ok (.dup, 1) := by decide +kernel
theorem dX8_init_179 : decode cX8_init 179 = .ok (.bipush 19, 2) := by decide +kernel
theorem dX8_init_181 : decode cX8_init 181 = .ok (.iconst 5, 1) := by decide +kernel
theorem dX8_init_182 : decode cX8_init 182 = .ok (.iastore, 1) := by decide +kernel
theorem dX8_init_183 : decode cX8_init 183 = .ok (.dup, 1) := by decide +kernel
theorem dX8_init_184 : decode cX8_init 184 = .ok (.bipush 20, 2) := by decide +kernel
theorem dX8_init_186 : decode cX8_init 186 = .ok (.iconst 5, 1) := by decide +kernel
theorem dX8_init_187 : decode cX8_init 187 = .ok (.iastore, 1) := by decide +kernel
theorem dX8_init_188 : decode cX8_init 188 = .ok (.dup, 1) := by decide +kernel
theorem dX8_init_189 : decode cX8_init 189 = .ok (.bipush 21, 2) := by decide +kernel
theorem dX8_init_191 : decode cX8_init 191 = .ok (.iconst 5, 1) := by decide +kernel
theorem dX8_init_192 : decode cX8_init 192 = .ok (.iastore, 1) := by decide +kernel
theorem dX8_init_193 : decode cX8_init 193 = .ok (.dup, 1) := by decide +kernel
theorem dX8_init_194 : decode cX8_init 194 = .ok (.bipush 22, 2) := by decide +kernel
theorem dX8_init_196 : decode cX8_init 196 = .ok (.iconst 5, 1) := by decide +kernel
theorem dX8_init_197 : decode cX8_init 197 = .ok (.iastore, 1) := by decide +kernel
theorem dX8_init_198 : decode cX8_init 198 = .ok (.dup, 1) := by decide +kernel
theorem dX8_init_199 : decode cX8_init 199 = .ok (.bipush 23, 2) := by decide +kernel
theorem dX8_init_201 : decode cX8_init 201 = .ok (.iconst 5, 1) := by decide +kernel
theorem dX8_init_202 : decode cX8_init 202 = .ok (.iastore, 1) := by decide +kernel
theorem dX8_init_203 : decode cX8_init 203 = .ok (.dup, 1) := by decide +kernel
theorem dX8_init_204 : decode cX8_init 204 = .ok (.bipush 24, 2) := by decide +kernel
theorem dX8_init_206 : decode cX8_init 206 = .ok (.iconst 5, 1) := by decide +kernel
theorem dX8_init_207 : decode cX8_init 207 = .ok (.iastore, 1) := by decide +kernel
theorem dX8_init_208 : decode cX8_init 208 = .ok (.dup, 1) := by decide +kernel
theorem dX8_init_209 : decode cX8_init 209 = .ok (.bipush 25, 2) := by decide +kernel
theorem dX8_init_211 : decode cX8_init 211 = .ok (.iconst 5, 1) := by decide +kernel
theorem dX8_init_212 : decode cX8_init 212 = .ok (.iastore, 1) := by decide +kernel
theorem dX8_init_213 : decode cX8_init 213 = .ok (.dup, 1) := by decide +kernel
theorem dX8_init_214 : decode cX8_init 214 = .ok (.bipush 26, 2) := by decide +kernel
theorem dX8_init_216 : decode cX8_init 216 = .ok (.iconst 5, 1) := by decide +kernel
theorem dX8_init_217 : decode cX8_init 217 = .ok (.iastore, 1) := by decide +kernel
theorem dX8_init_218 : decode cX8_init 218 = .ok (.dup, 1) := by decide +kernel
theorem dX8_init_219 : decode cX8_init 219 = .ok (.bipush 27, 2) := by decide +kernel
theorem dX8_init_221 : decode cX8_init 221 = .ok (.iconst 5, 1) := by decide +kernel
theorem dX8_init_222 : decode cX8_init 222 = .ok (.iastore, 1) := by decide +kernel
theorem dX8_init_223 : decode cX8_init 223 = .ok (.dup, 1) := by decide +kernel
theorem dX8_init_224 : decode cX8_init 224 = .ok (.bipush 28, 2) := by decide +kernel
theorem dX8_init_226 : decode cX8_init 226 = .ok (.iconst 5, 1) := by decide +kernel
theorem dX8_init_227 : decode cX8_init 227 = .ok (.iastore, 1) := by decide +kernel
theorem dX8_init_228 : decode cX8_init 228 = .ok (.dup, 1) := by decide +kernel
theorem dX8_init_229 : decode cX8_init 229 = .ok (.bipush 29, 2) := by decide +kernel
theorem dX8_init_231 : decode cX8_init 231 = .ok (.iconst 5, 1) := by decide +kernel
theorem dX8_init_232 : decode cX8_init 232 = .ok (.iastore, 1) := by decide +kernel
theorem dX8_init_233 : decode cX8_init 233 = .ok (.dup, 1) := by decide +kernel
theorem dX8_init_234 : decode cX8_init 234 = .ok (.bipush 30, 2) := by decide +kernel
theorem dX8_init_236 : decode cX8_init 236 = .ok (.iconst 5, 1) := by decide +kernel
theorem dX8_init_237 : decode cX8_init 237 = .ok (.iastore, 1) := by decide +kernel
theorem dX8_init_238 : decode cX8_init 238 = .ok (.dup, 1) := by decide +kernel
theorem dX8_init_239 : decode cX8_init 239 = .ok (.bipush 31, 2) := by decide +kernel
theorem dX8_init_241 : decode cX8_init 241 = .ok (.iconst 5, 1) := by decide +kernel
theorem dX8_init_242 : decode cX8_init 242 = .ok (.iastore, 1) := by decide +kernel
theorem dX8_init_243 : decode cX8_init 243 = .ok (.dup, 1) := by decide +kernel
theorem dX8_init_244 : decode cX8_init 244 = .ok (.bipush 32, 2) := by decide +kernel
theorem dX8_init_246 : decode cX8_init 246 = .ok (.iconst 5, 1) := by decide +kernel
theorem dX8_init_247 : decode cX8_init 247 = .ok (.iastore, 1) := by decide +kernel
theorem dX8_init_248 : decode cX8_init 248 = .ok (.dup, 1) := by decide +kernel
theorem dX8_init_249 : decode cX8_init 249 = .ok (.bipush 33, 2) := by decide +kernel
theorem dX8_init_251 : decode cX8_init 251 = .ok (.iconst 5, 1) := by decide +kernel
theorem dX8_init_252 : decode cX8_init 252 = .ok (.iastore, 1) := by decide +kernel
theorem dX8_init_253 : decode cX8_init 253 = .ok (.dup, 1) := by decide +kernel
theorem dX8_init_254 : decode cX8_init 254 = .ok (.bipush 34, 2) := by decide +kernel
theorem dX8_init_256 : decode cX8_init 256 = .ok (.iconst 5, 1) := by decide +kernel
theorem dX8_init_257 : decode cX8_init 257 = .ok (.iastore, 1) := by decide +kernel
theorem dX8_init_258 : decode cX8_init 258 = .ok (.dup, 1) := by decide +kernel
theorem dX8_init_259 : decode cX8_init 259 = .ok (.bipush 35, 2) := by decide +kernel
theorem dX8_init_261 : decode cX8_init 261 = .ok (.iconst 5, 1) := by decide +kernel
theorem dX8_init_262 : decode cX8_init 262 = .ok (.iastore, 1) := by decide +kernel
theorem dX8_init_263 : decode cX8_init 263 = .ok (.dup, 1) := by decide +kernel
theorem dX8_init_264 : decode cX8_init 264 = .ok (.bipush 36, 2) := by decide +kernel
theorem dX8_init_266 : decode cX8_init 266 = .ok (.iconst 5, 1) := by decide +kernel
theorem dX8_init_267 : decode cX8_init 267 = .ok (.iastore, 1) := by decide +kernel
theorem dX8_init_268 : decode cX8_init 268 = .ok (.dup, 1) := by decide +kernel
theorem dX8_init_269 : decode cX8_init 269 = .ok (.bipush 37, 2) := by decide +kernel
theorem dX8_init_271 : decode cX8_init 271 = .ok (.iconst 5, 1) := by decide +kernel
theorem dX8_init_272 : decode cX8_init 272 = .ok (.iastore, 1) := by decide +kernel
theorem dX8_init_273 : decode cX8_init 273 = .ok (.dup, 1) := by decide +kernel
theorem dX8_init_274 : decode cX8_init 274 = .ok (.bipush 38, 2) := by decide +kernel
theorem dX8_init_276 : decode cX8_init 276 = .ok (.iconst 5, 1) := by decide +kernel
theorem dX8_init_277 : decode cX8_init 277 = .ok (.iastore, 1) := by decide +kernel
theorem dX8_init_278 : decode cX8_init 278 = .ok (.dup, 1) := by decide +kernel
theorem dX8_init_279 : decode cX8_init 279 = .ok (.bipush 39, 2) := by decide +kernel
theorem dX8_init_281 : decode cX8_init 281 = .ok (.iconst 5, 1) := by decide +kernel
theorem dX8_init_282 : decode cX8_init 282 = .ok (.iastore, 1) := by decide +kernel
theorem dX8_init_283 : decode cX8_init 283 = .ok (.dup, 1) := by decide +kernel
theorem dX8_init_284 : decode cX8_init 284 = .ok (.bipush 40, 2) := by decide +kernel
theorem dX8_init_286 : decode cX8_init 286 = .ok (.iconst 5, 1) := by decide +kernel
theorem dX8_init_287 : decode cX8_init 287 = .ok (.iastore, 1) := by decide +kernel
theorem dX8_init_288 : decode cX8_init 288 = .ok (.dup, 1) := by decide +kernel
theorem dX8_init_289 : decode cX8_init 289 = .ok (.bipush 41, 2) := by decide +kernel
theorem dX8_init_291 : decode cX8_init 291 = .ok (.iconst 5, 1) := by decide +kernel
theorem dX8_init_292 : decode cX8_init 292 = .ok (.iastore, 1) := by decide +kernel
theorem dX8_init_293 : decode cX8_init 293 = .ok (.dup, 1) := by decide +kernel
theorem dX8_init_294 : decode cX8_init 294 = .ok (.bipush 42, 2) := by decide +kernel
theorem dX8_init_296 : decode cX8_init 296 = .ok (.iconst 5, 1) := by decide +kernel
theorem dX8_init_297 : decode cX8_init 297 = .ok (.iastore, 1) := by decide +kernel
theorem dX8_init_298 : decode cX8_init 298 = .ok (.dup, 1) := by decide +kernel
theorem dX8_init_299 : decode cX8_init 299 = .ok (.bipush 43, 2) := by decide +kernel
theorem dX8_init_301 : decode cX8_init 301 = .ok (.iconst 5, 1) := by decide +kernel
theorem dX8_init_302 : decode cX8_init 302 = .ok (.iastore, 1) := by decide +kernel
theorem dX8_init_303 : decode cX8_init 303 = .ok (.dup, 1) := by decide +kernel
theorem dX8_init_304 : decode cX8_init 304 = .ok (.bipush 44, 2) := by decide +kernel
theorem dX8_init_306 : decode cX8_init 306 = .ok (.iconst 5, 1) := by decide +kernel
theorem dX8_init_307 : decode cX8_init 307 = .ok (.iastore, 1) := by decide +kernel
theorem dX8_init_308 : decode cX8_init 308 = .ok (.dup, 1) := by decide +kernel
theorem dX8_init_309 : decode cX8_init 309 = .ok (.bipush 45, 2) := by decide +kernel
theorem dX8_init_311 : decode cX8_init 311 = .ok (.iconst 5, 1) := by decide +kernel
theorem dX8_init_312 : decode cX8_init 312 = .ok (.iastore, 1) := by decide +kernel
theorem dX8_init_313 : decode cX8_init 313 = .ok (.dup, 1) := by decide +kernel
theorem dX8_init_314 : decode cX8_init 314 = .ok (.bipush 46, 2) := by decide +kernel
theorem dX8_init_316 : decode cX8_init 316 = .ok (.iconst 5, 1) := by decide +kernel
theorem dX8_init_317 : decode cX8_init 317 = .ok (.iastore, 1) := by decide +kernel
theorem dX8_init_318 : decode cX8_init 318 = .ok (.dup, 1) := by decide +kernel
theorem dX8_init_319 : decode cX8_init 319 = .ok (.bipush 47, 2) := by decide +kernel
theorem dX8_init_321 : decode cX8_init 321 = .ok (.iconst 5, 1) := by decide +kernel
theorem dX8_init_322 : decode cX8_init 322 = .ok (.iastore, 1) := by decide +kernel
theorem dX8_init_323 : decode cX8_init 323 = .ok (.dup, 1) := by decide +kernel
theorem dX8_init_324 : decode cX8_init 324 = .ok (.bipush 48, 2) := by decide +kernel
theorem dX8_init_326 : decode cX8_init 326 = .ok (.iconst 5, 1) := by decide +kernel
theorem dX8_init_327 : decode cX8_init 327 = .ok (.iastore, 1) := by decide +kernel
theorem dX8_init_328 : decode cX8_init 328 = .ok (.dup, 1) := by decide +kernel
theorem dX8_init_329 : decode cX8_init 329 = .ok (.bipush 49, 2) := by decide +kernel
theorem dX8_init_331 : decode cX8_init 331 = .ok (.iconst 5, 1) := by decide +kernel
theorem dX8_init_332 : decode cX8_init 332 = .ok (.iastore, 1) := by decide +kernel
theorem dX8_init_333 : decode cX8_init 333 = .ok (.dup, 1) := by decide +kernel
theorem dX8_init_334 : decode cX8_init 334 = .ok (.bipush 50, 2) := by decide +kernel
theorem dX8_init_336 : decode cX8_init 336 = .ok (.iconst 5, 1) := by decide +kernel
theorem dX8_init_337 : decode cX8_init 337 = .ok (.iastore, 1) := by decide +kernel
theorem dX8_init_338 : decode cX8_init 338 = .ok (.dup, 1) := by decide +kernel
theorem dX8_init_339 : decode cX8_init 339 = .ok (.bipush 51, 2) := by decide +kernel
theorem dX8_init_341 : decode cX8_init 341 = .ok (.iconst 5, 1) := by decide +kernel
theorem dX8_init_342 : decode cX8_init 342 = .ok (.iastore, 1) := by decide +kernel
theorem dX8_init_343 : decode cX8_init 343 = .ok (.dup, 1) := by decide +kernel
theorem dX8_init_344 : decode cX8_init 344 = .ok (.bipush 52, 2) := by decide +kernel
theorem dX8_init_346 : decode cX8_init 346 = .ok (.iconst 5, 1) := by decide +kernel
theorem dX8_init_347 : decode cX8_init 347 = .ok (.iastore, 1) := by decide +kernel
theorem dX8_init_348 : decode cX8_init 348 = .ok (.dup, 1) := by decide +kernel
theorem dX8_init_349 : decode cX8_init 349 = .ok (.bipush 53, 2) := by decide +kernel
theorem dX8_init_351 : decode cX8_init 351 = .ok (.iconst 5, 1) := by decide +kernel
theorem dX8_init_352 : decode cX8_init 352 = .ok (.iastore, 1) := by decide +kernel
theorem dX8_init_353 : decode cX8_init 353 = .ok (.dup, 1) := by decide +kernel
theorem dX8_init_354 : decode cX8_init 354 = .ok (.bipush 54, 2) := by decide +kernel
theorem dX8_init_356 : decode cX8_init 356 = .ok (.iconst 5, 1) := by decide +kernel
theorem dX8_init_357 : decode cX8_init 357 = .ok (.iastore, 1) := by decide +kernel
theorem dX8_init_358 : decode cX8_init 358 = .ok (.dup, 1) := by decide +kernel
theorem dX8_init_359 : decode cX8_init 359 = .ok (.bipush 55, 2) := by decide +kernel
theorem dX8_init_361 : decode cX8_init 361 = .ok (.iconst 5, 1) := by decide +kernel
theorem dX8_init_362 : decode cX8_init 362 = .ok (.iastore, 1) := by decide +kernel
theorem dX8_init_363 : decode cX8_init 363 = .ok (.dup, 1) := by decide +kernel
theorem dX8_init_364 : decode cX8_init 364 = .ok (.bipush 56, 2) := by decide +kernel
theorem dX8_init_366 : decode cX8_init 366 = .ok (.iconst 5, 1) := by decide +kernel
theorem dX8_init_367 : decode cX8_init 367 = .ok (.iastore, 1) := by decide +kernel
theorem dX8_init_368 : decode cX8_init 368 = .ok (.dup, 1) := by decide +kernel
theorem dX8_init_369 : decode cX8_init 369 = .ok (.bipush 57, 2) := by decide +kernel
theorem dX8_init_371 : decode cX8_init 371 = .ok (.iconst 5, 1) := by decide +kernel
theorem dX8_init_372 : decode cX8_init 372 = .ok (.iastore, 1) := by decide +kernel
theorem dX8_init_373 : decode cX8_init 373 = .ok (.dup, 1) := by decide +kernel
theorem dX8_init_374 : decode cX8_init 374 = .ok (.bipush 58, 2) := by decide +kernel
theorem dX8_init_376 : decode cX8_init 376 = .ok (.iconst 5, 1) := by decide +kernel
theorem dX8_init_377 : decode cX8_init 377 = .ok (.iastore, 1) := by decide +kernel
theorem dX8_init_378 : decode cX8_init 378 = .ok (.dup, 1) := by decide +kernel
theorem dX8_init_379 : decode cX8_init 379 = .ok (.bipush 59, 2) := by decide +kernel
theorem dX8_init_381 : decode cX8_init 381 = .ok (.iconst 5, 1) := by decide +kernel
theorem dX8_init_382 : decode cX8_init 382 = .ok (.iastore, 1) := by decide +kernel
theorem dX8_init_383 : decode cX8_init 383 = .ok (.dup, 1) := by decide +kernel
theorem dX8_init_384 : decode cX8_init 384 = .ok (.bipush 60, 2) := by decide +kernel
theorem dX8_init_386 : decode cX8_init 386 = .ok (.iconst 5, 1) := by decide +kernel
theorem dX8_init_387 : decode cX8_init 387 = .ok (.iastore, 1) := by decide +kernel
theorem dX8_init_388 : decode cX8_init 388 = .ok (.dup, 1) := by decide +kernel
theorem dX8_init_389 : decode cX8_init 389 = .ok (.bipush 61, 2) := by decide +kernel
theorem dX8_init_391 : decode cX8_init 391 = .ok (.iconst 5, 1) := by decide +kernel
theorem dX8_init_392 : decode cX8_init 392 = .ok (.iastore, 1) := by decide +kernel
theorem dX8_init_393 : decode cX8_init 393 = .ok (.dup, 1) := by decide +kernel
theorem dX8_init_394 : decode cX8_init 394 = .ok (.bipush 62, 2) := by decide +kernel
theorem dX8_init_396 : decode cX8_init 396 = .ok (.iconst 5, 1) := by decide +kernel
theorem dX8_init_397 : decode cX8_init 397 = .ok (.iastore, 1) := by decide +kernel
theorem dX8_init_398 : decode cX8_init 398 = .ok (.dup, 1) := by decide +kernel
theorem dX8_init_399 : decode cX8_init 399 = .ok (.bipush 63, 2) := by decide +kernel
theorem dX8_init_401 : decode cX8_init 401 = .ok (.iconst 5, 1) := by decide +kernel
theorem dX8_init_402 : decode cX8_init 402 = .ok (.iastore, 1) := by decide +kernel
theorem dX8_init_403 : decode cX8_init 403 = .ok (.dup, 1) := by decide +kernel
theorem dX8_init_404 : decode cX8_init 404 = .ok (.bipush 64, 2) := by decide +kernel
theorem dX8_init_406 : decode cX8_init 406 = .ok (.iconst 5, 1) := by decide +kernel
theorem dX8_init_407 : decode cX8_init 407 = .ok (.iastore, 1) := by decide +kernel
theorem dX8_init_408 : decode cX8_init 408 = .ok (.dup, 1) := by decide +kernel
theorem dX8_init_409 : decode cX8_init 409 = .ok (.bipush 65, 2) := by decide +kernel
theorem dX8_init_411 : decode cX8_init 411 = .ok (.iconst 5, 1) := by decide +kernel
theorem dX8_init_412 : decode cX8_init 412 = .ok (.iastore, 1) := by decide +kernel
theorem dX8_init_413 : decode cX8_init 413 = .ok (.dup, 1) := by decide +kernel
theorem dX8_init_414 : decode cX8_init 414 = .ok (.bipush 66, 2) := by decide +kernel
theorem dX8_init_416 : decode cX8_init 416 = .ok (.iconst 5, 1) := by decide +kernel
theorem dX8_init_417 : decode cX8_init 417 = .ok (.iastore, 1) := by decide +kernel
theorem dX8_init_418 : decode cX8_init 418 = .ok (.dup, 1) := by decide +kernel
theorem dX8_init_419 : decode cX8_init 419 = .ok (.bipush 67, 2) := by decide +kernel
theorem dX8_init_421 : decode cX8_init 421 = .ok (.iconst 5, 1) := by decide +kernel
theorem dX8_init_422 : decode cX8_init 422 = .ok (.iastore, 1) := by decide +kernel
theorem dX8_init_423 : decode cX8_init 423 = .ok (.dup, 1) := by decide +kernel
theorem dX8_init_424 : decode cX8_init 424 = .ok (.bipush 68, 2) := by decide +kernel
theorem dX8_init_426 : decode cX8_init 426 = .ok (.iconst 5, 1) := by decide +kernel
theorem dX8_init_427 : decode cX8_init 427 = .ok (.iastore, 1) := by decide +kernel
theorem dX8_init_428 : decode cX8_init 428 = .ok (.dup, 1) := by decide +kernel
theorem dX8_init_429 : decode cX8_init 429 = .ok (.bipush 69, 2) := by decide +kernel
theorem dX8_init_431 : decode cX8_init 431 = .ok (.iconst 5, 1) := by decide +kernel
theorem dX8_init_432 : decode cX8_init 432 = .ok (.iastore, 1) := by decide +kernel
theorem dX8_init_433 : decode cX8_init 433 = .ok (.dup, 1) := by decide +kernel
theorem dX8_init_434 : decode cX8_init 434 = .ok (.bipush 70, 2) := by decide +kernel
theorem dX8_init_436 : decode cX8_init 436 = .ok (.iconst 5, 1) := by decide +kernel
theorem dX8_init_437 : decode cX8_init 437 = .ok (.iastore, 1) := by decide +kernel
theorem dX8_init_438 : decode cX8_init 438 = .ok (.dup, 1) := by decide +kernel
theorem dX8_init_439 : decode cX8_init 439 = .ok (.bipush 71, 2) := by decide +kernel
theorem dX8_init_441 : decode cX8_init 441 = .ok (.iconst 5, 1) := by decide +kernel
theorem dX8_init_442 : decode cX8_init 442 = .ok (.iastore, 1) := by decide +kernel
theorem dX8_init_443 : decode cX8_init 443 = .ok (.dup, 1) := by decide +kernel
theorem dX8_init_444 : decode cX8_init 444 = .ok (.bipush 72, 2) := by decide +kernel
theorem dX8_init_446 : decode cX8_init 446 = .ok (.iconst 5, 1) := by decide +kernel
theorem dX8_init_447 : decode cX8_init 447 = .ok (.iastore, 1) := by decide +kernel
theorem dX8_init_448 : decode cX8_init 448 = .ok (.dup, 1) := by decide +kernel
theorem dX8_init_449 : decode cX8_init 449 = .ok (.bipush 73, 2) := by decide +kernel
theorem dX8_init_451 : decode cX8_init 451 = .ok (.iconst 5, 1) := by decide +kernel
theorem dX8_init_452 : decode cX8_init 452 = .ok (.iastore, 1) := by decide +kernel
theorem dX8_init_453 : decode cX8_init 453 = .ok (.dup, 1) := by decide +kernel
theorem dX8_init_454 : decode cX8_init 454 = .ok (.bipush 74, 2) := by decide +kernel
theorem dX8_init_456 : decode cX8_init 456 = .ok (.iconst 5, 1) := by decide +kernel
theorem dX8_init_457 : decode cX8_init 457 = .ok (.iastore, 1) := by decide +kernel
theorem dX8_init_458 : decode cX8_init 458 = .ok (.dup, 1) := by decide +kernel
theorem dX8_init_459 : decode cX8_init 459 = .ok (.bipush 75, 2) := by decide +kernel
theorem dX8_init_461 : decode cX8_init 461 = .ok (.iconst 5, 1) := by decide +kernel
theorem dX8_init_462 : decode cX8_init 462 = .ok (.iastore, 1) := by decide +kernel
theorem dX8_init_463 : decode cX8_init 463 = .ok (.dup, 1) := by decide +kernel
theorem dX8_init_464 : decode cX8_init 464 = .ok (.bipush 76, 2) := by decide +kernel
theorem dX8_init_466 : decode cX8_init 466 = .ok (.iconst 5, 1) := by decide +kernel
theorem dX8_init_467 : decode cX8_init 467 = .ok (.iastore, 1) := by decide +kernel
theorem dX8_init_468 : decode cX8_init 468 = .ok (.dup, 1) := by decide +kernel
theorem dX8_init_469 : decode cX8_init 469 = .ok (.bipush 77, 2) := by decide +kernel
theorem dX8_init_471 : decode cX8_init 471 = .ok (.iconst 5, 1) := by decide +kernel
theorem dX8_init_472 : decode cX8_init 472 = .ok (.iastore, 1) := by decide +kernel
theorem dX8_init_473 : decode cX8_init 473 = .ok (.dup, 1) := by decide +kernel
theorem dX8_init_474 : decode cX8_init 474 = .ok (.bipush 78, 2) := by decide +kernel
theorem dX8_init_476 : decode cX8_init 476 = .ok (.iconst 5, 1) := by decide +kernel
theorem dX8_init_477 : decode cX8_init 477 = .ok (.iastore, 1) := by decide +kernel
theorem dX8_init_478 : decode cX8_init 478 = .ok (.dup, 1) := by decide +kernel
theorem dX8_init_479 : decode cX8_init 479 = .ok (.bipush 79, 2) := by decide +kernel
theorem dX8_init_481 : decode cX8_init 481 = .ok (.iconst 5, 1) := by decide +kernel
theorem dX8_init_482 : decode cX8_init 482 = .ok (.iastore, 1) := by decide +kernel
theorem dX8_init_483 : decode cX8_init 483 = .ok (.dup, 1) := by decide +kernel
theorem dX8_init_484 : decode cX8_init 484 = .ok (.bipush 80, 2) := by decide +kernel
theorem dX8_init_486 : decode cX8_init 486 = .ok (.iconst 5, 1) := by decide +kernel
theorem dX8_init_487 : decode cX8_init 487 = .ok (.iastore, 1) := by decide +kernel
theorem dX8_init_488 : decode cX8_init 488 = .ok (.dup, 1) := by decide +kernel
theorem dX8_init_489 : decode cX8_init 489 = .ok (.bipush 81, 2) := by decide +kernel
theorem dX8_init_491 : decode cX8_init 491 = .ok (.iconst 5, 1) := by decide +kernel
theorem dX8_init_492 : decode cX8_init 492 = .ok (.iastore, 1) := by decide +kernel
theorem dX8_init_493 : decode cX8_init 493 = .ok (.dup, 1) := by decide +kernel
theorem dX8_init_494 : decode cX8_init 494 = .ok (.bipush 82, 2) := by decide +kernel
theorem dX8_init_496 : decode cX8_init 496 = .ok (.iconst 5, 1) := by decide +kernel
theorem dX8_init_497 : decode cX8_init 497 = .ok (.iastore, 1) := by decide +kernel
theorem dX8_init_498 : decode cX8_init 498 = .ok (.dup, 1) := by decide +kernel
theorem dX8_init_499 : decode cX8_init 499 = .ok (.bipush 83, 2) := by decide +kernel
theorem dX8_init_501 : decode cX8_init 501 = .ok (.iconst 5, 1) := by decide +kernel
theorem dX8_init_502 : decode cX8_init 502 = .ok (.iastore, 1) := by decide +kernel
theorem dX8_init_503 : decode cX8_init 503 = .ok (.dup, 1) := by decide +kernel
theorem dX8_init_504 : decode cX8_init 504 = .ok (.bipush 84, 2) := by decide +kernel
theorem dX8_init_506 : decode cX8_init 506 = .ok (.iconst 5, 1) := by decide +kernel
theorem dX8_init_507 : decode cX8_init 507 = .ok (.iastore, 1) := by decide +kernel
theorem dX8_init_508 : decode cX8_init 508 = .ok (.dup, 1) := by decide +kernel
theorem dX8_init_509 : decode cX8_init 509 = .ok (.bipush 85, 2) := by decide +kernel
theorem dX8_init_511 : decode cX8_init 511 = .ok (.iconst 5, 1) := by decide +kernel
theorem dX8_init_512 : decode cX8_init 512 = .ok (.iastore, 1) := by decide +kernel
theorem dX8_init_513 : decode cX8_init 513 = .ok (.dup, 1) := by decide +kernel
theorem dX8_init_514 : decode cX8_init 514 = .ok (.bipush 86, 2) := by decide +kernel
theorem dX8_init_516 : decode cX8_init 516 = .ok (.iconst 5, 1) := by decide +kernel
theorem dX8_init_517 : decode cX8_init 517 = .ok (.iastore, 1) := by decide +kernel
theorem dX8_init_518 : decode cX8_init 518 = .ok (.dup, 1) := by decide +kernel
theorem dX8_init_519 : decode cX8_init 519 = .ok (.bipush 87, 2) := by decide +kernel
theorem dX8_init_521 : decode cX8_init 521 = .ok (.iconst 5, 1) := by decide +kernel
theorem dX8_init_522 : decode cX8_init 522 = .ok (.iastore, 1) := by decide +kernel
theorem dX8_init_523 : decode cX8_init 523 = .ok (.dup, 1) := by decide +kernel
theorem dX8_init_524 : decode cX8_init 524 = .ok (.bipush 88, 2) := by decide +kernel
theorem dX8_init_526 : decode cX8_init 526 = .ok (.iconst 5, 1) := by decide +kernel
theorem dX8_init_527 : decode cX8_init 527 = .ok (.iastore, 1) := by decide +kernel
theorem dX8_init_528 : decode cX8_init 528 = .ok (.dup, 1) := by decide +kernel
theorem dX8_init_529 : decode cX8_init 529 = .ok (.bipush 89, 2) := by decide +kernel
theorem dX8_init_531 : decode cX8_init 531 = .ok (.iconst 5, 1) := by decide +kernel
theorem dX8_init_532 : decode cX8_init 532 = .ok (.iastore, 1) := by decide +kernel
theorem dX8_init_533 : decode cX8_init 533 = .ok (.dup, 1) := by decide +kernel
theorem dX8_init_534 : decode cX8_init 534 = .ok (.bipush 90, 2) := by decide +kernel
theorem dX8_init_536 : decode cX8_init 536 = .ok (.iconst 5, 1) := by decide +kernel
theorem dX8_init_537 : decode cX8_init 537 = .ok (.iastore, 1) := by decide +kernel
theorem dX8_init_538 : decode cX8_init 538 = .ok (.dup, 1) := by decide +kernel
theorem dX8_init_539 : decode cX8_init 539 = .ok (.bipush 91, 2) := by decide +kernel
theorem dX8_init_541 : decode cX8_init 541 = .ok (.iconst 5, 1) := by decide +kernel
theorem dX8_init_542 : decode cX8_init 542 = .ok (.iastore, 1) := by decide +kernel
theorem dX8_init_543 : decode cX8_init 543 = .ok (.dup, 1) := by decide +kernel
theorem dX8_init_544 : decode cX8_init 544 = .ok (.bipush 92, 2) := by decide +kernel
theorem dX8_init_546 : decode cX8_init 546 = .ok (.iconst 5, 1) := by decide +kernel
theorem dX8_init_547 : decode cX8_init 547 = .ok (.iastore, 1) := by decide +kernel
theorem dX8_init_548 : decode cX8_init 548 = .ok (.dup, 1) := by decide +kernel
theorem dX8_init_549 : decode cX8_init 549 = .ok (.bipush 93, 2) := by decide +kernel
theorem dX8_init_551 : decode cX8_init 551 = .ok (.iconst 5, 1) := by decide +kernel
theorem dX8_init_552 : decode cX8_init 552 = .ok (.iastore, 1) := by decide +kernel
theorem dX8_init_553 : decode cX8_init 553 = .ok (.dup, 1) := by decide +kernel
theorem dX8_init_554 : decode cX8_init 554 = .ok (.bipush 94, 2) := by decide +kernel
theorem dX8_init_556 : decode cX8_init 556 = .ok (.iconst 5, 1) := by decide +kernel
theorem dX8_init_557 : decode cX8_init 557 = .ok (.iastore, 1) := by decide +kernel
theorem dX8_init_558 : decode cX8_init 558 = .ok (.dup, 1) := by decide +kernel
theorem dX8_init_559 : decode cX8_init 559 = .ok (.bipush 95, 2) := by decide +kernel
theorem dX8_init_561 : decode cX8_init 561 = .ok (.iconst 5, 1) := by decide +kernel
theorem dX8_init_562 : decode cX8_init 562 = .ok (.iastore, 1) := by decide +kernel
theorem dX8_init_563 : decode cX8_init 563 = .ok (.dup, 1) := by decide +kernel
theorem dX8_init_564 : decode cX8_init 564 = .ok (.bipush 96, 2) := by decide +kernel
theorem dX8_init_566 : decode cX8_init 566 = .ok (.iconst 5, 1) := by decide +kernel
theorem dX8_init_567 : decode cX8_init 567 = .ok (.iastore, 1) := by decide +kernel
theorem dX8_init_568 : decode cX8_init 568 = .ok (.dup, 1) := by decide +kernel
theorem dX8_init_569 : decode cX8_init 569 = .ok (.bipush 97, 2) := by decide +kernel
theorem dX8_init_571 : decode cX8_init 571 = .ok (.iconst 5, 1) := by decide +kernel
theorem dX8_init_572 : decode cX8_init 572 = .ok (.iastore, 1) := by decide +kernel
theorem dX8_init_573 : decode cX8_init 573 = .ok (.dup, 1) := by decide +kernel
theorem dX8_init_574 : decode cX8_init 574 = .ok (.bipush 98, 2) := by decide +kernel
theorem dX8_init_576 : decode cX8_init 576 = .ok (.iconst 5, 1) := by decide +kernel
theorem dX8_init_577 : decode cX8_init 577 = .ok (.iastore, 1) := by decide +kernel
theorem dX8_init_578 : decode cX8_init 578 = .ok (.dup, 1) := by decide +kernel
theorem dX8_init_579 : decode cX8_init 579 = .ok (.bipush 99, 2) := by decide +kernel
theorem dX8_init_581 : decode cX8_init 581 = .ok (.iconst 5, 1) := by decide +kernel
theorem dX8_init_582 : decode cX8_init 582 = .ok (.iastore, 1) := by decide +kernel
theorem dX8_init_583 : decode cX8_init 583 = .ok (.dup, 1) := by decide +kernel
theorem dX8_init_584 : decode cX8_init 584 = .ok (.bipush 100, 2) := by decide +kernel
theorem dX8_init_586 : decode cX8_init 586 = .ok (.iconst 5, 1) := by decide +kernel
theorem dX8_init_587 : decode cX8_init 587 = .ok (.iastore, 1) := by decide +kernel
theorem dX8_init_588 : decode cX8_init 588 = .ok (.dup, 1) := by decide +kernel
theorem dX8_init_589 : decode cX8_init 589 = .ok (.bipush 101, 2) := by decide +kernel
theorem dX8_init_591 : decode cX8_init 591 = .ok (.iconst 5, 1) := by decide +kernel
theorem dX8_init_592 : decode cX8_init 592 = .ok (.iastore, 1) := by decide +kernel
theorem dX8_init_593 : decode cX8_init 593 = .ok (.dup, 1) := by decide +kernel
theorem dX8_init_594 : decode cX8_init 594 = .ok (.bipush 102, 2) := by decide +kernel
theorem dX8_init_596 : decode cX8_init 596 = .ok (.iconst 5, 1) := by decide +kernel
theorem dX8_init_597 : decode cX8_init 597 = .ok (.iastore, 1) := by decide +kernel
theorem dX8_init_598 : decode cX8_init 598 = .ok (.dup, 1) := by decide +kernel
theorem dX8_init_599 : decode cX8_init 599 = .ok (.bipush 103, 2) := by decide +kernel
theorem dX8_init_601 : decode cX8_init 601 = .ok (.iconst 5, 1) := by decide +kernel
theorem dX8_init_602 : decode cX8_init 602 = .ok (.iastore, 1) := by decide +kernel
theorem dX8_init_603 : decode cX8_init 603 = .ok (.dup, 1) := by decide +kernel
theorem dX8_init_604 : decode cX8_init 604 = .ok (.bipush 104, 2) := by decide +kernel
theorem dX8_init_606 : decode cX8_init 606 = .ok (.iconst 5, 1) := by decide +kernel
theorem dX8_init_607 : decode cX8_init 607 = .ok (.iastore, 1) := by decide +kernel
theorem dX8_init_608 : decode cX8_init 608 = .ok (.dup, 1) := by decide +kernel
theorem dX8_init_609 : decode cX8_init 609 = .ok (.bipush 105, 2) := by decide +kernel
theorem dX8_init_611 : decode cX8_init 611 = .ok (.iconst 5, 1) := by decide +kernel
theorem dX8_init_612 : decode cX8_init 612 = .ok (.iastore, 1) := by decide +kernel
theorem dX8_init_613 : decode cX8_init 613 = .ok (.dup, 1) := by decide +kernel
theorem dX8_init_614 : decode cX8_init 614 = .ok (.bipush 106, 2) := by decide +kernel
theorem dX8_init_616 : decode cX8_init 616 = .ok (.iconst 5, 1) := by decide +kernel
theorem dX8_init_617 : decode cX8_init 617 = .ok (.iastore, 1) := by decide +kernel
theorem dX8_init_618 : decode cX8_init 618 = .ok (.dup, 1) := by decide +kernel
theorem dX8_init_619 : decode cX8_init 619 = .ok (.bipush 107, 2) := by decide +kernel
theorem dX8_init_621 : decode cX8_init 621 = .ok (.iconst 5, 1) := by decide +kernel
theorem dX8_init_622 : decode cX8_init 622 = .ok (.iastore, 1) := by decide +kernel
theorem dX8_init_623 : decode cX8_init 623 = .ok (.dup, 1) := by decide +kernel
theorem dX8_init_624 : decode cX8_init 624 = .ok (.bipush 108, 2) := by decide +kernel
theorem dX8_init_626 : decode cX8_init 626 = .ok (.iconst 5, 1) := by decide +kernel
theorem dX8_init_627 : decode cX8_init 627 = .ok (.iastore, 1) := by decide +kernel
theorem dX8_init_628 : decode cX8_init 628 = .ok (.dup, 1) := by decide +kernel
theorem dX8_init_629 : decode cX8_init 629 = .ok (.bipush 109, 2) := by decide +kernel
theorem dX8_init_631 : decode cX8_init 631 = .ok (.iconst 5, 1) := by decide +kernel
theorem dX8_init_632 : decode cX8_init 632 = .ok (.iastore, 1) := by decide +kernel
theorem dX8_init_633 : decode cX8_init 633 = .ok (.dup, 1) := by decide +kernel
theorem dX8_init_634 : decode cX8_init 634 = .ok (.bipush 110, 2) := by decide +kernel
theorem dX8_init_636 : decode cX8_init 636 = .ok (.iconst 5, 1) := by decide +kernel
theorem dX8_init_637 : decode cX8_init 637 = .ok (.iastore, 1) := by decide +kernel
theorem dX8_init_638 : decode cX8_init 638 = .ok (.dup, 1) := by decide +kernel
theorem dX8_init_639 : decode cX8_init 639 = .ok (.bipush 111, 2) := by decide +kernel
theorem dX8_init_641 : decode cX8_init 641 = .ok (.iconst 5, 1) := by decide +kernel
theorem dX8_init_642 : decode cX8_init 642 = .ok (.iastore, 1) := by decide +kernel
theorem dX8_init_643 : decode cX8_init 643 = .ok (.dup, 1) := by decide +kernel
theorem dX8_init_644 : decode cX8_init 644 = .ok (.bipush 112, 2) := by decide +kernel
theorem dX8_init_646 : decode cX8_init 646 = .ok (.iconst 5, 1) := by decide +kernel
theorem dX8_init_647 : decode cX8_init 647 = .ok (.iastore, 1) := by decide +kernel
theorem dX8_init_648 : decode cX8_init 648 = .ok (.dup, 1) := by decide +kernel
theorem dX8_init_649 : decode cX8_init 649 = .ok (.bipush 113, 2) := by decide +kernel
theorem dX8_init_651 : decode cX8_init 651 = .ok (.iconst 5, 1) := by decide +kernel
theorem dX8_init_652 : decode cX8_init 652 = .ok (.iastore, 1) := by decide +kernel
theorem dX8_init_653 : decode cX8_init 653 = .ok (.dup, 1) := by decide +kernel
theorem dX8_init_654 : decode cX8_init 654 = .ok (.bipush 114, 2) := by decide +kernel
theorem dX8_init_656 : decode cX8_init 656 = .ok (.iconst 5, 1) := by decide +kernel
theorem dX8_init_657 : decode cX8_init 657 = .ok (.iastore, 1) := by decide +kernel
theorem dX8_init_658 : decode cX8_init 658 = .ok (.dup, 1) := by decide +kernel
theorem dX8_init_659 : decode cX8_init 659 = .ok (.bipush 115, 2) := by decide +kernel
theorem dX8_init_661 : decode cX8_init 661 = .ok (.iconst 5, 1) := by decide +kernel
theorem dX8_init_662 : decode cX8_init 662 = .ok (.iastore, 1) := by decide +kernel
theorem dX8_init_663 : decode cX8_init 663 = .ok (.dup, 1) := by decide +kernel
theorem dX8_init_664 : decode cX8_init 664 = .ok (.bipush 116, 2) := by decide +kernel
theorem dX8_init_666 : decode cX8_init 666 = .ok (.iconst 5, 1) := by decide +kernel
theorem dX8_init_667 : decode cX8_init 667 = .ok (.iastore, 1) := by decide +kernel
theorem dX8_init_668 : decode cX8_init 668 = .ok (.dup, 1) := by decide +kernel
theorem dX8_init_669 : decode cX8_init 669 = .ok (.bipush 117, 2) := by decide +kernel
theorem dX8_init_671 : decode cX8_init 671 = .ok (.iconst 5, 1) := by decide +kernel
theorem dX8_init_672 : decode cX8_init 672 = .ok (.iastore, 1) := by decide +kernel
theorem dX8_init_673 : decode cX8_init 673 = .ok (.dup, 1) := by decide +kernel
theorem dX8_init_674 : decode cX8_init 674 = .ok (.bipush 118, 2) := by decide +kernel
theorem dX8_init_676 : decode cX8_init 676 = .ok (.iconst 5, 1) := by decide +kernel
theorem dX8_init_677 : decode cX8_init 677 = .ok (.iastore, 1) := by decide +kernel
theorem dX8_init_678 : decode cX8_init 678 = .ok (.dup, 1) := by decide +kernel
theorem dX8_init_679 : decode cX8_init 679 = .ok (.bipush 119, 2) := by decide +kernel
theorem dX8_init_681 : decode cX8_init 681 = .ok (.iconst 5, 1) := by decide +kernel
theorem dX8_init_682 : decode cX8_init 682 = .ok (.iastore, 1) := by decide +kernel
theorem dX8_init_683 : decode cX8_init 683 = .ok (.putfield 40, 3) := by decide +kernel
theorem dX8_init_686 : decode cX8_init 686 = .ok (.aload_n 0, 1) := by decide +kernel
theorem dX8_init_687 : decode cX8_init 687 = .ok (.bipush 90, 2) := by decide +kernel
theorem dX8_init_689 : decode cX8_init 689 = .ok (.putfield 43, 3) := by decide +kernel
theorem dX8_init_692 : decode cX8_init 692 = .ok (.aload_n 0, 1) := by decide +kernel
theorem dX8_init_693 : decode cX8_init 693 = .ok (.iconst (-1), 1) := by decide +kernel
theorem dX8_init_694 : decode cX8_init 694 = .ok (.putfield 47, 3) := by decide +kernel
theorem dX8_init_697 : decode cX8_init 697 = .ok (.aload_n 0, 1) := by decide +kernel
theorem dX8_init_698 : decode cX8_init 698 = .ok (.iconst (-1), 1) := by decide +kernel
theorem dX8_init_699 : decode cX8_init 699 = .ok (.putfield 50, 3) := by decide +kernel
theorem dX8_init_702 : decode cX8_init 702 = .ok (.aload_n 0, 1) := by decide +kernel
theorem dX8_init_703 : decode cX8_init 703 = .ok (.sipush 160, 3) := by decide +kernel
theorem dX8_init_706 : decode cX8_init 706 = .ok (.newarray .byte, 2) := by decide +kernel
theorem dX8_init_708 : decode cX8_init 708 = .ok (.putfield 53, 3) := by decide +kernel
theorem dX8_init_711 : decode cX8_init 711 = .ok (.aload_n 0, 1) := by decide +kernel
theorem dX8_init_712 : decode cX8_init 712 = .ok (.iconst 1, 1) := by decide +kernel
theorem dX8_init_713 : decode cX8_init 713 = .ok (.putfield 57, 3) := by decide +kernel
theorem dX8_init_716 : decode cX8_init 716 = .ok (.aload_n 0, 1) := by decide +kernel
theorem dX8_init_717 : decode cX8_init 717 = .ok (.sipush 1190, 3) := by decide +kernel
theorem dX8_init_720 : decode cX8_init 720 = .ok (.newarray .int, 2) := by decide +kernel
theorem dX8_init_722 : decode cX8_init 722 = .ok (.putfield 60, 3) := by decide +kernel
theorem dX8_init_725 : decode cX8_init 725 = .ok (.aload_n 0, 1) := by decide +kernel
theorem dX8_init_726 : decode cX8_init 726 = .ok (.sipush 1190, 3) := by decide +kernel
theorem dX8_init_729 : decode cX8_init 729 = .ok (.newarray .int, 2) := by decide +kernel
theorem dX8_init_731 : decode cX8_init 731 = .ok (.putfield 63, 3) := by decide +kernel
theorem dX8_init_734 : decode cX8_init 734 = .ok (.aload_n 0, 1) := by decide +kernel
theorem dX8_init_735 : decode cX8_init 735 = .ok (.bipush 21, 2) := by decide +kernel
theorem dX8_init_737 : decode cX8_init 737 = .ok (.newarray .int, 2) := by decide +kernel
theorem dX8_init_739 : decode cX8_init 739 = .ok (.putfield 66, 3) := by decide +kernel
theorem dX8_init_742 : decode cX8_init 742 = .ok (.aload_n 0, 1) := by decide +kernel
theorem dX8_init_743 : decode cX8_init 743 = .ok (.sipush 170, 3) := by decide +kernel
theorem dX8_init_746 : decode cX8_init 746 = .ok (.newarray .int, 2) := by decide +kernel
theorem dX8_init_748 : decode cX8_init 748 = .ok (.putfield 69, 3) := by decide +kernel
theorem dX8_init_751 : decode cX8_init 751 = .ok (.aload_n 0, 1) := by decide +kernel
theorem dX8_init_752 : decode cX8_init 752 = .ok (.bipush 6, 2) := by decide +kernel
theorem dX8_init_754 : decode cX8_init 754 = .ok (.newarray .int, 2) := by decide +kernel
theorem dX8_init_756 : decode cX8_init 756 = .ok (.putfield 72, 3) := by decide +kernel
theorem dX8_init_759 : decode cX8_init 759 = .ok (.aload_n 0, 1) := by decide +kernel
theorem dX8_init_760 : decode cX8_init 760 = .ok (.bipush 53, 2) := by decide +kernel
theorem dX8_init_762 : decode cX8_init 762 = .ok (.newarray .int, 2) := by decide +kernel
theorem dX8_init_764 : decode cX8_init 764 = .ok (.dup, 1) := by decide +kernel
theorem dX8_init_765 : decode cX8_init 765 = .ok (.iconst 0, 1) := by decide +kernel
theorem dX8_init_766 : decode cX8_init 766 = .ok (.bipush 117, 2) := by decide +kernel
theorem dX8_init_768 : decode cX8_init 768 = .ok (.iastore, 1) := by decide +kernel
theorem dX8_init_769 : decode cX8_init 769 = .ok (.dup, 1) := by decide +kernel
theorem dX8_init_770 : decode cX8_init 770 = .ok (.iconst 1, 1) := by decide +kernel
theorem dX8_init_771 : decode cX8_init 771 = .ok (.bipush 112, 2) := by decide +kernel
theorem dX8_init_773 : decode cX8_init 773 = .ok (.iastore, 1) := by decide +kernel
theorem dX8_init_774 : decode cX8_init 774 = .ok (.dup, 1) := by decide +kernel
theorem dX8_init_775 : decode cX8_init 775 = .ok (.iconst 2, 1) := by decide +kernel
theorem dX8_init_776 : decode cX8_init 776 = .ok (.bipush 32, 2) := by decide +kernel
theorem dX8_init_778 : decode cX8_init 778 = .ok (.iastore, 1) := by decide +kernel
theorem dX8_init_779 : decode cX8_init 779 = .ok (.dup, 1) := by decide +kernel
theorem dX8_init_780 : decode cX8_init 780 = .ok (.iconst 3, 1) := by decide +kernel
theorem dX8_init_781 : decode cX8_init 781 = .ok (.bipush 119, 2) := by decide +kernel
theorem dX8_init_783 : decode cX8_init 783 = .ok (.iastore, 1) := by decide +kernel
theorem dX8_init_784 : decode cX8_init 784 = .ok (.dup, 1) := by decide +kernel
theorem dX8_init_785 : decode cX8_init 785 = .ok (.iconst 4, 1) := by decide +kernel
theorem dX8_init_786 : decode cX8_init 786 = .ok (.bipush 97, 2) := by decide +kernel
theorem dX8_init_788 : decode cX8_init 788 = .ok (.iastore, 1) := by decide +kernel
theorem dX8_init_789 : decode cX8_init 789 = .ok (.dup, 1) := by decide +kernel
theorem dX8_init_790 : decode cX8_init 790 = .ok (.iconst 5, 1) := by decide +kernel
theorem dX8_init_791 : decode cX8_init 791 = .ok (.bipush 105, 2) := by decide +kernel
theorem dX8_init_793 : decode cX8_init 793 = .ok (.iastore, 1) := by decide +kernel
theorem dX8_init_794 : decode cX8_init 794 = .ok (.dup, 1) := by decide +kernel
theorem dX8_init_795 : decode cX8_init 795 = .ok (.bipush 6, 2) := by decide +kernel
theorem dX8_init_797 : decode cX8_init 797 = .ok (.bipush 116, 2) := by decide +kernel
theorem dX8_init_799 : decode cX8_init 799 = .ok (.iastore, 1) := by decide +kernel
theorem dX8_init_800 : decode cX8_init 800 = .ok (.dup, 1) := by decide +kernel
theorem dX8_init_801 : decode cX8_init 801 = .ok (.bipush 7, 2) := by decide +kernel
theorem dX8_init_803 : decode cX8_init 803 = .ok (.bipush 32, 2) := by decide +kernel
theorem dX8_init_805 : decode cX8_init 805 = .ok (.iastore, 1) := by decide +kernel
theorem dX8_init_806 : decode cX8_init 806 = .ok (.dup, 1) := by decide +kernel
theorem dX8_init_807 : decode cX8_init 807 = .ok (.bipush 8, 2) := by decide +kernel
theorem dX8_init_809 : decode cX8_init 809 = .ok (.bipush 108, 2) := by decide +kernel
theorem dX8_init_811 : decode cX8_init 811 = .ok (.iastore, 1) := by decide +kernel
theorem dX8_init_812 : decode cX8_init 812 = .ok (.dup, 1) := by decide +kernel
theorem dX8_init_813 : decode cX8_init 813 = .ok (.bipush 9, 2) := by decide +kernel
theorem dX8_init_815 : decode cX8_init 815 = .ok (.bipush 101, 2) := by decide +kernel
theorem dX8_init_817 : decode cX8_init 817 = .ok (.iastore, 1) := by decide +kernel
theorem dX8_init_818 : decode cX8_init 818 = .ok (.dup, 1) := by decide +kernel
theorem dX8_init_819 : decode cX8_init 819 = .ok (.bipush 10, 2) := by decide +kernel
theorem dX8_init_821 : decode cX8_init 821 = .ok (.bipush 102, 2) := by decide +kernel
theorem dX8_init_823 : decode cX8_init 823 = .ok (.iastore, 1) := by decide +kernel
theorem dX8_init_824 : decode cX8_init 824 = .ok (.dup, 1) := by decide +kernel
theorem dX8_init_825 : decode cX8_init 825 = .ok (.bipush 11, 2) := by decide +kernel
theorem dX8_init_827 : decode cX8_init 827 = .ok (.bipush 116, 2) := by decide +kernel
theorem dX8_init_829 : decode cX8_init 829 = .ok (.iastore, 1) := by decide +kernel
theorem dX8_init_830 : decode cX8_init 830 = .ok (.dup, 1) := by decide +kernel
theorem dX8_init_831 : decode cX8_init 831 = .ok (.bipush 12, 2) := by decide +kernel
theorem dX8_init_833 : decode cX8_init 833 = .ok (.bipush 32, 2) := by decide +kernel
theorem dX8_init_835 : decode cX8_init 835 = .ok (.iastore, 1) := by decide +kernel
theorem dX8_init_836 : decode cX8_init 836 = .ok (.dup, 1) := by decide +kernel
theorem dX8_init_837 : decode cX8_init 837 = .ok (.bipush 13, 2) := by decide +kernel
theorem dX8_init_839 : decode cX8_init 839 = .ok (.bipush 112, 2) := by decide +kernel
theorem dX8_init_841 : decode cX8_init 841 = .ok (.iastore, 1) := by decide +kernel
theorem dX8_init_842 : decode cX8_init 842 = .ok (.dup, 1) := by decide +kernel
theorem dX8_init_843 : decode cX8_init 843 = .ok (.bipush 14, 2) := by decide +kernel
theorem dX8_init_845 : decode cX8_init 845 = .ok (.bipush 114, 2) := by decide +kernel
theorem dX8_init_847 : decode cX8_init 847 = .ok (.iastore, 1) := by decide +kernel
theorem dX8_init_848 : decode cX8_init 848 = .ok (.dup, 1) := by decide +kernel
theorem dX8_init_849 : decode cX8_init 849 = .ok (.bipush 15, 2) := by decide +kernel
theorem dX8_init_851 : decode cX8_init 851 = .ok (.bipush 105, 2) := by decide +kernel
theorem dX8_init_853 : decode cX8_init 853 = .ok (.iastore, 1) := by decide +kernel
theorem dX8_init_854 : decode cX8_init 854 = .ok (.dup, 1) := by decide +kernel
theorem dX8_init_855 : decode cX8_init 855 = .ok (.bipush 16, 2) := by decide +kernel
theorem dX8_init_857 : decode cX8_init 857 = .ok (.bipush 99, 2) := by decide +kernel
theorem dX8_init_859 : decode cX8_init 859 = .ok (.iastore, 1) := by decide +kernel
theorem dX8_init_860 : decode cX8_init 860 = .ok (.dup, 1) := by decide +kernel
theorem dX8_init_861 : decode cX8_init 861 = .ok (.bipush 17, 2) := by decide +kernel
theorem dX8_init_863 : decode cX8_init 863 = .ok (.bipush 101, 2) := by decide +kernel
theorem dX8_init_865 : decode cX8_init 865 = .ok (.iastore, 1) := by decide +kernel
theorem dX8_init_866 : decode cX8_init 866 = .ok (.dup, 1) := by decide +kernel
theorem dX8_init_867 : decode cX8_init 867 = .ok (.bipush 18, 2) := by decide +kernel
theorem dX8_init_869 : decode cX8_init 869 = .ok (.bipush 32, 2) := by decide +kernel
theorem dX8_init_871 : decode cX8_init 871 = .ok (.iastore, 1) := by decide +kernel
theorem dX8_init_872 : decode cX8_init 872 = .ok (.dup, 1) := by decide +kernel
theorem dX8_init_873 : decode cX8_init 873 = .ok (.bipush 19, 2) := by decide +kernel
theorem dX8_init_875 : decode cX8_init 875 = .ok (.bipush 104, 2) := by decide +kernel
theorem dX8_init_877 : decode cX8_init 877 = .ok (.iastore, 1) := by decide +kernel
theorem dX8_init_878 : decode cX8_init 878 = .ok (.dup, 1) := by decide +kernel
theorem dX8_init_879 : decode cX8_init 879 = .ok (.bipush 20, 2) := by decide +kernel
theorem dX8_init_881 : decode cX8_init 881 = .ok (.bipush 101, 2) := by decide +kernel
theorem dX8_init_883 : decode cX8_init 883 = .ok (.iastore, 1) := by decide +kernel
theorem dX8_init_884 : decode cX8_init 884 = .ok (.dup, 1) := by decide +kernel
theorem dX8_init_885 : decode cX8_init 885 = .ok (.bipush 21, 2) := by decide +kernel
theorem dX8_init_887 : decode cX8_init 887 = .ok (.bipush 97, 2) := by decide +kernel
theorem dX8_init_889 : decode cX8_init 889 = .ok (.iastore, 1) := by decide +kernel
theorem dX8_init_890 : decode cX8_init 890 = .ok (.dup, 1) := by decide +kernel
theorem dX8_init_891 : decode cX8_init 891 = .ok (.bipush 22, 2) := by decide +kernel
theorem dX8_init_893 : decode cX8_init 893 = .ok (.bipush 114, 2) := by decide +kernel
theorem dX8_init_895 : decode cX8_init 895 = .ok (.iastore, 1) := by decide +kernel
theorem dX8_init_896 : decode cX8_init 896 = .ok (.dup, 1) := by decide +kernel
theorem dX8_init_897 : decode cX8_init 897 = .ok (.bipush 23, 2) := by decide +kernel
theorem dX8_init_899 : decode cX8_init 899 = .ok (.bipush 100, 2) := by decide +kernel
theorem dX8_init_901 : decode cX8_init 901 = .ok (.iastore, 1) := by decide +kernel
theorem dX8_init_902 : decode cX8_init 902 = .ok (.dup, 1) := by decide +kernel
theorem dX8_init_903 : decode cX8_init 903 = .ok (.bipush 24, 2) := by decide +kernel
theorem dX8_init_905 : decode cX8_init 905 = .ok (.bipush 32, 2) := by decide +kernel
theorem dX8_init_907 : decode cX8_init 907 = .ok (.iastore, 1) := by decide +kernel
theorem dX8_init_908 : decode cX8_init 908 = .ok (.dup, 1) := by decide +kernel
theorem dX8_init_909 : decode cX8_init 909 = .ok (.bipush 25, 2) := by decide +kernel
theorem dX8_init_911 : decode cX8_init 911 = .ok (.bipush 115, 2) := by decide +kernel
theorem dX8_init_913 : decode cX8_init 913 = .ok (.iastore, 1) := by decide +kernel
theorem dX8_init_914 : decode cX8_init 914 = .ok (.dup, 1) := by decide +kernel
theorem dX8_init_915 : decode cX8_init 915 = .ok (.bipush 26, 2) := by decide +kernel
theorem dX8_init_917 : decode cX8_init 917 = .ok (.bipush 117, 2) := by decide +kernel
theorem dX8_init_919 : decode cX8_init 919 = .ok (.iastore, 1) := by decide +kernel
theorem dX8_init_920 : decode cX8_init 920 = .ok (.dup, 1) := by decide +kernel
theorem dX8_init_921 : decode cX8_init 921 = .ok (.bipush 27, 2) := by decide +kernel
theorem dX8_init_923 : decode cX8_init 923 = .ok (.bipush 110, 2) := by decide +kernel
theorem dX8_init_925 : decode cX8_init 925 = .ok (.iastore, 1) := by decide +kernel
theorem dX8_init_926 : decode cX8_init 926 = .ok (.dup, 1) := by decide +kernel
theorem dX8_init_927 : decode cX8_init 927 = .ok (.bipush 28, 2) := by decide +kernel
theorem dX8_init_929 : decode cX8_init 929 = .ok (.bipush 32, 2) := by decide +kernel
theorem dX8_init_931 : decode cX8_init 931 = .ok (.iastore, 1) := by decide +kernel
theorem dX8_init_932 : decode cX8_init 932 = .ok (.dup, 1) := by decide +kernel
theorem dX8_init_933 : decode cX8_init 933 = .ok (.bipush 29, 2) := by decide +kernel
theorem dX8_init_935 : decode cX8_init 935 = .ok (.bipush 103, 2) := by decide +kernel
theorem dX8_init_937 : decode cX8_init 937 = .ok (.iastore, 1) := by decide +kernel
theorem dX8_init_938 : decode cX8_init 938 = .ok (.dup, 1) := by decide +kernel
theorem dX8_init_939 : decode cX8_init 939 = .ok (.bipush 30, 2) := by decide +kernel
theorem dX8_init_941 : decode cX8_init 941 = .ok (.bipush 111, 2) := by decide +kernel
theorem dX8_init_943 : decode cX8_init 943 = .ok (.iastore, 1) := by decide +kernel
theorem dX8_init_944 : decode cX8_init 944 = .ok (.dup, 1) := by decide +kernel
theorem dX8_init_945 : decode cX8_init 945 = .ok (.bipush 31, 2) := by decide +kernel
theorem dX8_init_947 : decode cX8_init 947 = .ok (.bipush 32, 2) := by decide +kernel
theorem dX8_init_949 : decode cX8_init 949 = .ok (.iastore, 1) := by decide +kernel
theorem dX8_init_950 : decode cX8_init 950 = .ok (.dup, 1) := by decide +kernel
theorem dX8_init_951 : decode cX8_init 951 = .ok (.bipush 32, 2) := by decide +kernel
theorem dX8_init_953 : decode cX8_init 953 = .ok (.bipush 114, 2) := by decide +kernel
theorem dX8_init_955 : decode cX8_init 955 = .ok (.iastore, 1) := by decide +kernel
theorem dX8_init_956 : decode cX8_init 956 = .ok (.dup, 1) := by decide +kernel
theorem dX8_init_957 : decode cX8_init 957 = .ok (.bipush 33, 2) := by decide +kernel
theorem dX8_init_959 : decode cX8_init 959 = .ok (.bipush 117, 2) := by decide +kernel
theorem dX8_init_961 : decode cX8_init 961 = .ok (.iastore, 1) := by decide +kernel
theorem dX8_init_962 : decode cX8_init 962 = .ok (.dup, 1) := by decide +kernel
theorem dX8_init_963 : decode cX8_init 963 = .ok (.bipush 34, 2) := by decide +kernel
theorem dX8_init_965 : decode cX8_init 965 = .ok (.bipush 115, 2) := by decide +kernel
theorem dX8_init_967 : decode cX8_init 967 = .ok (.iastore, 1) := by decide +kernel
theorem dX8_init_968 : decode cX8_init 968 = .ok (.dup, 1) := by decide +kernel
theorem dX8_init_969 : decode cX8_init 969 = .ok (.bipush 35, 2) := by decide +kernel
theorem dX8_init_971 : decode cX8_init 971 = .ok (.bipush 104, 2) := by decide +kernel
theorem dX8_init_973 : decode cX8_init 973 = .ok (.iastore, 1) := by decide +kernel
theorem dX8_init_974 : decode cX8_init 974 = .ok (.dup, 1) := by decide +kernel
theorem dX8_init_975 : decode cX8_init 975 = .ok (.bipush 36, 2) := by decide +kernel
theorem dX8_init_977 : decode cX8_init 977 = .ok (.bipush 32, 2) := by decide +kernel
theorem dX8_init_979 : decode cX8_init 979 = .ok (.iastore, 1) := by decide +kernel
theorem dX8_init_980 : decode cX8_init 980 = .ok (.dup, 1) := by decide +kernel
theorem dX8_init_981 : decode cX8_init 981 = .ok (.bipush 37, 2) := by decide +kernel
theorem dX8_init_983 : decode cX8_init 983 = .ok (.bipush 104, 2) := by decide +kernel
theorem dX8_init_985 : decode cX8_init 985 = .ok (.iastore, 1) := by decide +kernel
theorem dX8_init_986 : decode cX8_init 986 = .ok (.dup, 1) := by decide +kernel
theorem dX8_init_987 : decode cX8_init 987 = .ok (.bipush 38, 2) := by decide +kernel
theorem dX8_init_989 : decode cX8_init 989 = .ok (.bipush 97, 2) := by decide +kernel
theorem dX8_init_991 : decode cX8_init 991 = .ok (.iastore, 1) := by decide +kernel
theorem dX8_init_992 : decode cX8_init 992 = .ok (.dup, 1) := by decide +kernel
theorem dX8_init_993 : decode cX8_init 993 = .ok (.bipush 39, 2) := by decide +kernel
theorem dX8_init_995 : decode cX8_init 995 = .ok (.bipush 114, 2) := by decide +kernel
theorem dX8_init_997 : decode cX8_init 997 = .ok (.iastore, 1) := by decide +kernel
theorem dX8_init_998 : decode cX8_init 998 = .ok (.dup, 1) := by decide +kernel
theorem dX8_init_999 : decode cX8_init 999 = .ok (.bipush 40, 2) := by decide +kernel
theorem dX8_init_1001 : decode cX8_init 1001 = .ok (.bipush 109, 2) := by decide +kernel
theorem dX8_init_1003 : decode cX8_init 1003 = .ok (.iastore, 1) := by decide +kernel
theorem dX8_init_1004 : decode cX8_init 1004 = .ok (.dup, 1) := by decide +kernel
theorem dX8_init_1005 : decode cX8_init 1005 = .ok (.bipush 41, 2) := by decide +kernel
theorem dX8_init_1007 : decode cX8_init 1007 = .ok (.bipush 32, 2) := by decide +kernel
theorem dX8_init_1009 : decode cX8_init 1009 = .ok (.iastore, 1) := by decide +kernel
theorem dX8_init_1010 : decode cX8_init 1010 = .ok (.dup, 1) := by decide +kernel
theorem dX8_init_1011 : decode cX8_init 1011 = .ok (.bipush 42, 2) := by decide +kernel
theorem dX8_init_1013 : decode cX8_init 1013 = .ok (.bipush 111, 2) := by decide +kernel
theorem dX8_init_1015 : decode cX8_init 1015 = .ok (.iastore, 1) := by decide +kernel
theorem dX8_init_1016 : decode cX8_init 1016 = .ok (.dup, 1) := by decide +kernel
theorem dX8_init_1017 : decode cX8_init 1017 = .ok (.bipush 43, 2) := by decide +kernel
theorem dX8_init_1019 : decode cX8_init 1019 = .ok (.bipush 114, 2) := by decide +kernel
theorem dX8_init_1021 : decode cX8_init 1021 = .ok (.iastore, 1) := by decide +kernel
theorem dX8_init_1022 : decode cX8_init 1022 = .ok (.dup, 1) := by decide +kernel
theorem dX8_init_1023 : decode cX8_init 1023 = .ok (.bipush 44, 2) := by decide +kernel
theorem dX8_init_1025 : decode cX8_init 1025 = .ok (.bipush 32, 2) := by decide +kernel
theorem dX8_init_1027 : decode cX8_init 1027 = .ok (.iastore, 1) := by decide +kernel
theorem dX8_init_1028 : decode cX8_init 1028 = .ok (.dup, 1) := by decide +kernel
theorem dX8_init_1029 : decode cX8_init 1029 = .ok (.bipush 45, 2) := by decide +kernel
theorem dX8_init_1031 : decode cX8_init 1031 = .ok (.bipush 97, 2) := by decide +kernel
theorem dX8_init_1033 : decode cX8_init 1033 = .ok (.iastore, 1) := by decide +kernel
theorem dX8_init_1034 : decode cX8_init 1034 = .ok (.dup, 1) := by decide +kernel
theorem dX8_init_1035 : decode cX8_init 1035 = .ok (.bipush 46, 2) := by decide +kernel
theorem dX8_init_1037 : decode cX8_init 1037 = .ok (.bipush 110, 2) := by decide +kernel
theorem dX8_init_1039 : decode cX8_init 1039 = .ok (.iastore, 1) := by decide +kernel
theorem dX8_init_1040 : decode cX8_init 1040 = .ok (.dup, 1) := by decide +kernel
theorem dX8_init_1041 : decode cX8_init 1041 = .ok (.bipush 47, 2) := by decide +kernel
theorem dX8_init_1043 : decode cX8_init 1043 = .ok (.bipush 100, 2) := by decide +kernel
theorem dX8_init_1045 : decode cX8_init 1045 = .ok (.iastore, 1) := by decide +kernel
theorem dX8_init_1046 : decode cX8_init 1046 = .ok (.dup, 1) := by decide +kernel
theorem dX8_init_1047 : decode cX8_init 1047 = .ok (.bipush 48, 2) := by decide +kernel
theorem dX8_init_1049 : decode cX8_init 1049 = .ok (.bipush 32, 2) := by decide +kernel
theorem dX8_init_1051 : decode cX8_init 1051 = .ok (.iastore, 1) := by decide +kernel
theorem dX8_init_1052 : decode cX8_init 1052 = .ok (.dup, 1) := by decide +kernel
theorem dX8_init_1053 : decode cX8_init 1053 = .ok (.bipush 49, 2) := by decide +kernel
theorem dX8_init_1055 : decode cX8_init 1055 = .ok (.bipush 110, 2) := by decide +kernel
theorem dX8_init_1057 : decode cX8_init 1057 = .ok (.iastore, 1) := by decide +kernel
theorem dX8_init_1058 : decode cX8_init 1058 = .ok (.dup, 1) := by decide +kernel
theorem dX8_init_1059 : decode cX8_init 1059 = .ok (.bipush 50, 2) := by decide +kernel
theorem dX8_init_1061 : decode cX8_init 1061 = .ok (.bipush 111, 2) := by decide +kernel
theorem dX8_init_1063 : decode cX8_init 1063 = .ok (.iastore, 1) := by decide +kernel
theorem dX8_init_1064 : decode cX8_init 1064 = .ok (.dup, 1) := by decide +kernel
theorem dX8_init_1065 : decode cX8_init 1065 = .ok (.bipush 51, 2) := by decide +kernel
theorem dX8_init_1067 : decode cX8_init 1067 = .ok (.bipush 116, 2) := by decide +kernel
theorem dX8_init_1069 : decode cX8_init 1069 = .ok (.iastore, 1) := by decide +kernel
theorem dX8_init_1070 : decode cX8_init 1070 = .ok (.dup, 1) := by decide +kernel
theorem dX8_init_1071 : decode cX8_init 1071 = .ok (.bipush 52, 2) := by decide +kernel
theorem dX8_init_1073 : decode cX8_init 1073 = .ok (.bipush 32, 2) := by decide +kernel
theorem dX8_init_1075 : decode cX8_init 1075 = .ok (.iastore, 1) := by decide +kernel
theorem dX8_init_1076 : decode cX8_init 1076 = .ok (.putfield 75, 3) := by decide +kernel
theorem dX8_init_1079 : decode cX8_init 1079 = .ok (.aload_n 0, 1) := by decide +kernel
theorem dX8_init_1080 : decode cX8_init 1080 = .ok (.bipush 12, 2) := by decide +kernel
theorem dX8_init_1082 : decode cX8_init 1082 = .ok (.newarray .int, 2) := by decide +kernel
theorem dX8_init_1084 : decode cX8_init 1084 = .ok (.dup, 1) := by decide +kernel
theorem dX8_init_1085 : decode cX8_init 1085 = .ok (.iconst 0, 1) := by decide +kernel
theorem dX8_init_1086 : decode cX8_init 1086 = .ok (.iconst 0, 1) := by decide +kernel
theorem dX8_init_1087 : decode cX8_init 1087 = .ok (.iastore, 1) := by decide +kernel
theorem dX8_init_1088 : decode cX8_init 1088 = .ok (.dup, 1) := by decide +kernel
theorem dX8_init_1089 : decode cX8_init 1089 = .ok (.iconst 1, 1) := by decide +kernel
theorem dX8_init_1090 : decode cX8_init 1090 = .ok (.iconst 1, 1) := by decide +kernel
theorem dX8_init_1091 : decode cX8_init 1091 = .ok (.iastore, 1) := by decide +kernel
theorem dX8_init_1092 : decode cX8_init 1092 = .ok (.dup, 1) := by decide +kernel
theorem dX8_init_1093 : decode cX8_init 1093 = .ok (.iconst 2, 1) := by decide +kernel
theorem dX8_init_1094 : decode cX8_init 1094 = .ok (.iconst 2, 1) := by decide +kernel
theorem dX8_init_1095 : decode cX8_init 1095 = .ok (.iastore, 1) := by decide +kernel
theorem dX8_init_1096 : decode cX8_init 1096 = .ok (.dup, 1) := by decide +kernel
theorem dX8_init_1097 : decode cX8_init 1097 = .ok (.iconst 3, 1) := by decide +kernel
theorem dX8_init_1098 : decode cX8_init 1098 = .ok (.iconst 3, 1) := by decide +kernel
theorem dX8_init_1099 : decode cX8_init 1099 = .ok (.iastore, 1) := by decide +kernel
theorem dX8_init_1100 : decode cX8_init 1100 = .ok (.dup, 1) := by decide +kernel
theorem dX8_init_1101 : decode cX8_init 1101 = .ok (.iconst 4, 1) := by decide +kernel
theorem dX8_init_1102 : decode cX8_init 1102 = .ok (.iconst 4, 1) := by decide +kernel
theorem dX8_init_1103 : decode cX8_init 1103 = .ok (.iastore, 1) := by decide +kernel
theorem dX8_init_1104 : decode cX8_init 1104 = .ok (.dup, 1) := by decide +kernel
theorem dX8_init_1105 : decode cX8_init 1105 = .ok (.iconst 5, 1) := by decide +kernel
theorem dX8_init_1106 : decode cX8_init 1106 = .ok (.iconst 5, 1) := by decide +kernel
theorem dX8_init_1107 : decode cX8_init 1107 = .ok (.iastore, 1) := by decide +kernel
theorem dX8_init_1108 : decode cX8_init 1108 = .ok (.dup, 1) := by decide +kernel
theorem dX8_init_1109 : decode cX8_init 1109 = .ok (.bipush 6, 2) := by decide +kernel
theorem dX8_init_1111 : decode cX8_init 1111 = .ok (.bipush 10, 2) := by decide +kernel
theorem dX8_init_1113 : decode cX8_init 1113 = .ok (.iastore, 1) := by decide +kernel
theorem dX8_init_1114 : decode cX8_init 1114 = .ok (.dup, 1) := by decide +kernel
theorem dX8_init_1115 : decode cX8_init 1115 = .ok (.bipush 7, 2) := by decide +kernel
theorem dX8_init_1117 : decode cX8_init 1117 = .ok (.bipush 11, 2) := by decide +kernel
theorem dX8_init_1119 : decode cX8_init 1119 = .ok (.iastore, 1) := by decide +kernel
theorem dX8_init_1120 : decode cX8_init 1120 = .ok (.dup, 1) := by decide +kernel
theorem dX8_init_1121 : decode cX8_init 1121 = .ok (.bipush 8, 2) := by decide +kernel
theorem dX8_init_1123 : decode cX8_init 1123 = .ok (.bipush 12, 2) := by decide +kernel
theorem dX8_init_1125 : decode cX8_init 1125 = .ok (.iastore, 1) := by decide +kernel
theorem dX8_init_1126 : decode cX8_init 1126 = .ok (.dup, 1) := by decide +kernel
theorem dX8_init_1127 : decode cX8_init 1127 = .ok (.bipush 9, 2) := by decide +kernel
theorem dX8_init_1129 : decode cX8_init 1129 = .ok (.bipush 13, 2) := by decide +kernel
theorem dX8_init_1131 : decode cX8_init 1131 = .ok (.iastore, 1) := by decide +kernel
theorem dX8_init_1132 : decode cX8_init 1132 = .ok (.dup, 1) := by decide +kernel
theorem dX8_init_1133 : decode cX8_init 1133 = .ok (.bipush 10, 2) := by decide +kernel
theorem dX8_init_1135 : decode cX8_init 1135 = .ok (.bipush 14, 2) := by decide +kernel
theorem dX8_init_1137 : decode cX8_init 1137 = .ok (.iastore, 1) := by decide +kernel
theorem dX8_init_1138 : decode cX8_init 1138 = .ok (.dup, 1) := by decide +kernel
theorem dX8_init_1139 : decode cX8_init 1139 = .ok (.bipush 11, 2) := by decide +kernel
theorem dX8_init_1141 : decode cX8_init 1141 = .ok (.bipush 15, 2) := by decide +kernel
theorem dX8_init_1143 : decode cX8_init 1143 = .ok (.iastore, 1) := by decide +kernel
theorem dX8_init_1144 : decode cX8_init 1144 = .ok (.putfield 78, 3) := by decide +kernel
theorem dX8_init_1147 : decode cX8_init 1147 = .ok (.aload_n 0, 1) := by decide +kernel
theorem dX8_init_1148 : decode cX8_init 1148 = .ok (.bipush 6, 2) := by decide +kernel
theorem dX8_init_1150 : decode cX8_init 1150 = .ok (.newarray .int, 2) := by decide +kernel
theorem dX8_init_1152 : decode cX8_init 1152 = .ok (.putfield 81, 3) := by decide +kernel
theorem dX8_init_1155 : decode cX8_init 1155 = .ok (.aload_n 0, 1) := by decide +kernel
theorem dX8_init_1156 : decode cX8_init 1156 = .ok (.sipush 960, 3) := by decide +kernel
theorem dX8_init_1159 : decode cX8_init 1159 = .ok (.newarray .int, 2) := by decide +kernel
theorem dX8_init_1161 : decode cX8_init 1161 = .ok (.putfield 84, 3) := by decide +kernel
theorem dX8_init_1164 : decode cX8_init 1164 = .ok (.aload_n 0, 1) := by decide +kernel
theorem dX8_init_1165 : decode cX8_init 1165 = .ok (.sipush 720, 3) := by decide +kernel
theorem dX8_init_1168 : decode cX8_init 1168 = .ok (.newarray .int, 2) := by decide +kernel
theorem dX8_init_1170 : decode cX8_init 1170 = .ok (.putfield 87, 3) := by decide +kernel
theorem dX8_init_1173 : decode cX8_init 1173 = .ok (.aload_n 0, 1) := by decide +kernel
theorem dX8_init_1174 : decode cX8_init 1174 = .ok (.bipush 24, 2) := by decide +kernel
theorem dX8_init_1176 : decode cX8_init 1176 = .ok (.newarray .int, 2) := by decide +kernel
theorem dX8_init_1178 : decode cX8_init 1178 = .ok (.putfield 90, 3) := by decide +kernel
theorem dX8_init_1181 : decode cX8_init 1181 = .ok (.aload_n 0, 1) := by decide +kernel
theorem dX8_init_1182 : decode cX8_init 1182 = .ok (.sipush 720, 3) := by decide +kernel
theorem dX8_init_1185 : decode cX8_init 1185 = .ok (.newarray .int, 2) := by decide +kernel
theorem dX8_init_1187 : decode cX8_init 1187 = .ok (.putfield 93, 3) := by decide +kernel
theorem dX8_init_1190 : decode cX8_init 1190 = .ok (.aload_n 0, 1) := by decide +kernel
theorem dX8_init_1191 : decode cX8_init 1191 = .ok (.bipush 6, 2) := by decide +kernel
theorem dX8_init_1193 : decode cX8_init 1193 = .ok (.newarray .int, 2) := by decide +kernel
theorem dX8_init_1195 : decode cX8_init 1195 = .ok (.putfield 96, 3) := by decide +kernel
theorem dX8_init_1198 : decode cX8_init 1198 = .ok (.aload_n 0, 1) := by decide +kernel
theorem dX8_init_1199 : decode cX8_init 1199 = .ok (.bipush 6, 2) := by decide +kernel
theorem dX8_init_1201 : decode cX8_init 1201 = .ok (.newarray .int, 2) := by decide +kernel
theorem dX8_init_1203 : decode cX8_init 1203 = .ok (.putfield 99, 3) := by decide +kernel
theorem dX8_init_1206 : decode cX8_init 1206 = .ok (.aload_n 0, 1) := by decide +kernel
theorem dX8_init_1207 : decode cX8_init 1207 = .ok (.bipush 6, 2) := by decide +kernel
theorem dX8_init_1209 : decode cX8_init 1209 = .ok (.newarray .int, 2) := by decide +kernel
theorem dX8_init_1211 : decode cX8_init 1211 = .ok (.putfield 102, 3) := by decide +kernel
theorem dX8_init_1214 : decode cX8_init 1214 = .ok (.aload_n 0, 1) := by decide +kernel
theorem dX8_init_1215 : decode cX8_init 1215 = .ok (.bipush 6, 2) := by decide +kernel
theorem dX8_init_1217 : decode cX8_init 1217 = .ok (.newarray .int, 2) := by decide +kernel
theorem dX8_init_1219 : decode cX8_init 1219 = .ok (.putfield 105, 3) := by decide +kernel
theorem dX8_init_1222 : decode cX8_init 1222 = .ok (.aload_n 0, 1) := by decide +kernel
theorem dX8_init_1223 : decode cX8_init 1223 = .ok (.bipush 6, 2) := by decide +kernel
theorem dX8_init_1225 : decode cX8_init 1225 = .ok (.newarray .int, 2) := by decide +kernel
theorem dX8_init_1227 : decode cX8_init 1227 = .ok (.putfield 108, 3) := by decide +kernel
theorem dX8_init_1230 : decode cX8_init 1230 = .ok (.aload_n 0, 1) := by decide +kernel
theorem dX8_init_1231 : decode cX8_init 1231 = .ok (.bipush 120, 2) := by decide +kernel
theorem dX8_init_1233 : decode cX8_init 1233 = .ok (.newarray .int, 2) := by decide +kernel
theorem dX8_init_1235 : decode cX8_init 1235 = .ok (.putfield 111, 3) := by decide +kernel
theorem dX8_init_1238 : decode cX8_init 1238 = .ok (.aload_n 0, 1) := by decide +kernel
theorem dX8_init_1239 : decode cX8_init 1239 = .ok (.iconst 4, 1) := by decide +kernel
theorem dX8_init_1240 : decode cX8_init 1240 = .ok (.newarray .int, 2) := by decide +kernel
theorem dX8_init_1242 : decode cX8_init 1242 = .ok (.dup, 1) := by decide +kernel
theorem dX8_init_1243 : decode cX8_init 1243 = .ok (.iconst 0, 1) := by decide +kernel
theorem dX8_init_1244 : decode cX8_init 1244 = .ok (.iconst (-1), 1) := by decide +kernel
theorem dX8_init_1245 : decode cX8_init 1245 = .ok (.iastore, 1) := by decide +kernel
theorem dX8_init_1246 : decode cX8_init 1246 = .ok (.dup, 1) := by decide +kernel
theorem dX8_init_1247 : decode cX8_init 1247 = .ok (.iconst 1, 1) := by decide +kernel
theorem dX8_init_1248 : decode cX8_init 1248 = .ok (.iconst (-1), 1) := by decide +kernel
theorem dX8_init_1249 : decode cX8_init 1249 = .ok (.iastore, 1) := by decide +kernel
theorem dX8_init_1250 : decode cX8_init 1250 = .ok (.dup, 1) := by decide +kernel
theorem dX8_init_1251 : decode cX8_init 1251 = .ok (.iconst 2, 1) := by decide +kernel
theorem dX8_init_1252 : decode cX8_init 1252 = .ok (.iconst (-1), 1) := by decide +kernel
theorem dX8_init_1253 : decode cX8_init 1253 = .ok (.iastore, 1) := by decide +kernel
theorem dX8_init_1254 : decode cX8_init 1254 = .ok (.dup, 1) := by decide +kernel
theorem dX8_init_1255 : decode cX8_init 1255 = .ok (.iconst 3, 1) := by decide +kernel
theorem dX8_init_1256 : decode cX8_init 1256 = .ok (.iconst (-1), 1) := by decide +kernel
theorem dX8_init_1257 : decode cX8_init 1257 = .ok (.iastore, 1) := by decide +kernel
theorem dX8_init_1258 : decode cX8_init 1258 = .ok (.putfield 114, 3) := by decide +kernel
theorem dX8_init_1261 : decode cX8_init 1261 = .ok (.aload_n 0, 1) := by decide +kernel
theorem dX8_init_1262 : decode cX8_init 1262 = .ok (.iconst 4, 1) := by decide +kernel
theorem dX8_init_1263 : decode cX8_init 1263 = .ok (.newarray .int, 2) := by decide +kernel
theorem dX8_init_1265 : decode cX8_init 1265 = .ok (.putfield 117, 3) := by decide +kernel
theorem dX8_init_1268 : decode cX8_init 1268 = .ok (.aload_n 0, 1) := by decide +kernel
theorem dX8_init_1269 : decode cX8_init 1269 = .ok (.sipush 160, 3) := by decide +kernel
theorem dX8_init_1272 : decode cX8_init 1272 = .ok (.newarray .int, 2) := by decide +kernel
theorem dX8_init_1274 : decode cX8_init 1274 = .ok (.putfield 120, 3) := by decide +kernel
theorem dX8_init_1277 : decode cX8_init 1277 = .ok (.aload_n 0, 1) := by decide +kernel
theorem dX8_init_1278 : decode cX8_init 1278 = .ok (.bipush 40, 2) := by decide +kernel
theorem dX8_init_1280 : decode cX8_init 1280 = .ok (.newarray .int, 2) := by decide +kernel
theorem dX8_init_1282 : decode cX8_init 1282 = .ok (.putfield 123, 3) := by decide +kernel
theorem dX8_init_1285 : decode cX8_init 1285 = .ok (.return_, 1) := by decide +kernel
theorem dX8_in_0 : decode cX8_in 0 = .ok (.iload_n 0, 1) := by decide +kernel
theorem dX8_in_1 : decode cX8_in 1 = .ok (.iload_n 1, 1) := by decide +kernel
theorem dX8_in_2 : decode cX8_in 2 = .ok (.if_icmp .lt 12, 3) := by decide +kernel
theorem dX8_in_5 : decode cX8_in 5 = .ok (.iload_n 0, 1) := by decide +kernel
theorem dX8_in_6 : decode cX8_in 6 = .ok (.iload_n 2, 1) := by decide +kernel
theorem dX8_in_7 : decode cX8_in 7 = .ok (.if_icmp .gt 7, 3) := by decide +kernel
theorem dX8_in_10 : decode cX8_in 10 = .ok (.iconst 1, 1) := by decide +kernel
theorem dX8_in_11 : decode cX8_in 11 = .ok (.goto 4, 3) := by decide +kernel
theorem dX8_in_14 : decode cX8_in 14 = .ok (.iconst 0, 1) := by decide +kernel
theorem dX8_in_15 : decode cX8_in 15 = .ok (.ireturn, 1) := by decide +kernel
theorem dX8_held_0 : decode cX8_held 0 = .ok (.iload_n 0, 1) := by decide +kernel
theorem dX8_held_1 : decode cX8_held 1 = .ok (.iload_n 1, 1) := by decide +kernel
theorem dX8_held_2 : decode cX8_held 2 = .ok (.if_icmp .ge 7, 3) := by decide +kernel
theorem dX8_held_5 : decode cX8_held 5 = .ok (.iload_n 1, 1) := by decide +kernel
theorem dX8_held_6 : decode cX8_held 6 = .ok (.goto 13, 3) := by decide +kernel
theorem dX8_held_9 : decode cX8_held 9 = .ok (.iload_n 0, 1) := by decide +kernel
theorem dX8_held_10 : decode cX8_held 10 = .ok (.iload_n 2, 1) := by decide +kernel
theorem dX8_held_11 : decode cX8_held 11 = .ok (.if_icmp .le 7, 3) := by decide +kernel
theorem dX8_held_14 : decode cX8_held 14 = .ok (.iload_n 2, 1) := by decide +kernel
theorem dX8_held_15 : decode cX8_held 15 = .ok (.goto 4, 3) := by decide +kernel
theorem dX8_held_18 : decode cX8_held 18 = .ok (.iload_n 0, 1) := by decide +kernel
theorem dX8_held_19 : decode cX8_held 19 = .ok (.ireturn, 1) := by decide +kernel
theorem dX8_isSort_0 : decode cX8_isSort 0 = .ok (.iload_n 1, 1) := by decide +kernel
theorem dX8_isSort_1 : decode cX8_isSort 1 = .ok (.iconst 0, 1) := by decide +kernel
theorem dX8_isSort_2 : decode cX8_isSort 2 = .ok (.aload_n 0, 1) := by decide +kernel
theorem dX8_isSort_3 : decode cX8_isSort 3 = .ok (.getfield 129, 3) := by decide +kernel
theorem dX8_isSort_6 : decode cX8_isSort 6 = .ok (.iconst 1, 1) := by decide +kernel
theorem dX8_isSort_7 : decode cX8_isSort 7 = .ok (.isub, 1) := by decide +kernel
theorem dX8_isSort_8 : decode cX8_isSort 8 = .ok (.invokestatic 132, 3) := by decide +kernel
theorem dX8_isSort_11 : decode cX8_isSort 11 = .ok (.ireturn, 1) := by decide +kernel
theorem dX8_isWay_0 : decode cX8_isWay 0 = .ok (.iload_n 1, 1) := by decide +kernel
theorem dX8_isWay_1 : decode cX8_isWay 1 = .ok (.iconst 0, 1) := by decide +kernel
theorem dX8_isWay_2 : decode cX8_isWay 2 = .ok (.aload_n 0, 1) := by decide +kernel
theorem dX8_isWay_3 : decode cX8_isWay 3 = .ok (.getfield 136, 3) := by decide +kernel
theorem dX8_isWay_6 : decode cX8_isWay 6 = .ok (.iconst 1, 1) := by decide +kernel
theorem dX8_isWay_7 : decode cX8_isWay 7 = .ok (.isub, 1) := by decide +kernel
theorem dX8_isWay_8 : decode cX8_isWay 8 = .ok (.invokestatic 132, 3) := by decide +kernel
theorem dX8_isWay_11 : decode cX8_isWay 11 = .ok (.ireturn, 1) := by decide +kernel
theorem dX8_isMinute_0 : decode cX8_isMinute 0 = .ok (.iload_n 0, 1) := by decide +kernel
theorem dX8_isMinute_1 : decode cX8_isMinute 1 = .ok (.iconst 0, 1) := by decide +kernel
theorem dX8_isMinute_2 : decode cX8_isMinute 2 = .ok (.bipush 119, 2) := by decide +kernel
theorem dX8_isMinute_4 : decode cX8_isMinute 4 = .ok (.invokestatic 132, 3) := by decide +kernel
theorem dX8_isMinute_7 : decode cX8_isMinute 7 = .ok (.ireturn, 1) := by decide +kernel
theorem dX8_people_0 : decode cX8_people 0 = .ok (.iload_n 1, 1) := by decide +kernel
theorem dX8_people_1 : decode cX8_people 1 = .ok (.iconst 0, 1) := by decide +kernel
theorem dX8_people_2 : decode cX8_people 2 = .ok (.sipush 400, 3) := by decide +kernel
theorem dX8_people_5 : decode cX8_people 5 = .ok (.invokestatic 132, 3) := by decide +kernel
theorem dX8_people_8 : decode cX8_people 8 = .ok (.ifCond .eq 33, 3) := by decide +kernel
theorem dX8_people_11 : decode cX8_people 11 = .ok (.iload_n 2, 1) := by decide +kernel
theorem dX8_people_12 : decode cX8_people 12 = .ok (.ifCond .lt 29, 3) := by decide +kernel
theorem dX8_people_15 : decode cX8_people 15 = .ok (.iload_n 2, 1) := by decide +kernel
theorem dX8_people_16 : decode cX8_people 16 = .ok (.sipush 1000, 3) := by decide +kernel
theorem dX8_people_19 : decode cX8_people 19 = .ok (.idiv, 1) := by decide +kernel
theorem dX8_people_20 : decode cX8_people 20 = .ok (.bipush 40, 2) := by decide +kernel
theorem dX8_people_22 : decode cX8_people 22 = .ok (.if_icmp .gt 19, 3) := by decide +kernel
theorem dX8_people_25 : decode cX8_people 25 = .ok (.iload_n 2, 1) := by decide +kernel
theorem dX8_people_26 : decode cX8_people 26 = .ok (.bipush 10, 2) := by decide +kernel
theorem dX8_people_28 : decode cX8_people 28 = .ok (.idiv, 1) := by decide +kernel
theorem dX8_people_29 : decode cX8_people 29 = .ok (.bipush 100, 2) := by decide +kernel
theorem dX8_people_31 : decode cX8_people 31 = .ok (.irem, 1) := by decide +kernel
theorem dX8_people_32 : decode cX8_people 32 = .ok (.iconst 1, 1) := by decide +kernel
theorem dX8_people_33 : decode cX8_people 33 = .ok (.bipush 60, 2) := by decide +kernel
theorem dX8_people_35 : decode cX8_people 35 = .ok (.invokestatic 132, 3) := by decide +kernel
theorem dX8_people_38 : decode cX8_people 38 = .ok (.ifCond .ne 6, 3) := by decide +kernel
theorem dX8_people_41 : decode cX8_people 41 = .ok (.bipush (-2), 2) := by decide +kernel
theorem dX8_people_43 : decode cX8_people 43 = .ok (.ireturn, 1) := by decide +kernel
theorem dX8_people_44 : decode cX8_people 44 = .ok (.aload_n 0, 1) := by decide +kernel
theorem dX8_people_45 : decode cX8_people 45 = .ok (.getfield 129, 3) := by decide +kernel
theorem dX8_people_48 : decode cX8_people 48 = .ok (.bipush 6, 2) := by decide +kernel
theorem dX8_people_50 : decode cX8_people 50 = .ok (.if_icmp .ne 6, 3) := by decide +kernel
theorem dX8_people_53 : decode cX8_people 53 = .ok (.bipush (-4), 2) := by decide +kernel
theorem dX8_people_55 : decode cX8_people 55 = .ok (.ireturn, 1) := by decide +kernel
theorem dX8_people_56 : decode cX8_people 56 = .ok (.aload_n 0, 1) := by decide +kernel
theorem dX8_people_57 : decode cX8_people 57 = .ok (.getfield 7, 3) := by decide +kernel
theorem dX8_people_60 : decode cX8_people 60 = .ok (.aload_n 0, 1) := by decide +kernel
theorem dX8_people_61 : decode cX8_people 61 = .ok (.getfield 129, 3) := by decide +kernel
theorem dX8_people_64 : decode cX8_people 64 = .ok (.iload_n 1, 1) := by decide +kernel
theorem dX8_people_65 : decode cX8_people 65 = .ok (.iastore, 1) := by decide +kernel
theorem dX8_people_66 : decode cX8_people 66 = .ok (.aload_n 0, 1) := by decide +kernel
theorem dX8_people_67 : decode cX8_people 67 = .ok (.getfield 13, 3) := by decide +kernel
theorem dX8_people_70 : decode cX8_people 70 = .ok (.aload_n 0, 1) := by decide +kernel
theorem dX8_people_71 : decode cX8_people 71 = .ok (.getfield 129, 3) := by decide +kernel
theorem dX8_people_74 : decode cX8_people 74 = .ok (.iload_n 2, 1) := by decide +kernel
theorem dX8_people_75 : decode cX8_people 75 = .ok (.sipush 1000, 3) := by decide +kernel
theorem dX8_people_78 : decode cX8_people 78 = .ok (.idiv, 1) := by decide +kernel
theorem dX8_people_79 : decode cX8_people 79 = .ok (.iastore, 1) := by decide +kernel
theorem dX8_people_80 : decode cX8_people 80 = .ok (.aload_n 0, 1) := by decide +kernel
theorem dX8_people_81 : decode cX8_people 81 = .ok (.getfield 16, 3) := by decide +kernel
theorem dX8_people_84 : decode cX8_people 84 = .ok (.aload_n 0, 1) := by decide +kernel
theorem dX8_people_85 : decode cX8_people 85 = .ok (.getfield 129, 3) := by decide +kernel
theorem dX8_people_88 : decode cX8_people 88 = .ok (.iload_n 2, 1) := by decide +kernel
theorem dX8_people_89 : decode cX8_people 89 = .ok (.bipush 10, 2) := by decide +kernel
theorem dX8_people_91 : decode cX8_people 91 = .ok (.idiv, 1) := by decide +kernel
theorem dX8_people_92 : decode cX8_people 92 = .ok (.bipush 100, 2) := by decide +kernel
theorem dX8_people_94 : decode cX8_people 94 = .ok (.irem, 1) := by decide +kernel
theorem dX8_people_95 : decode cX8_people 95 = .ok (.iastore, 1) := by decide +kernel
theorem dX8_people_96 : decode cX8_people 96 = .ok (.aload_n 0, 1) := by decide +kernel
theorem dX8_people_97 : decode cX8_people 97 = .ok (.getfield 19, 3) := by decide +kernel
theorem dX8_people_100 : decode cX8_people 100 = .ok (.aload_n 0, 1) := by decide +kernel
theorem dX8_people_101 : decode cX8_people 101 = .ok (.getfield 129, 3) := by decide +kernel
theorem dX8_people_104 : decode cX8_people 104 = .ok (.iload_n 2, 1) := by decide +kernel
theorem dX8_people_105 : decode cX8_people 105 = .ok (.bipush 10, 2) := by decide +kernel
theorem dX8_people_107 : decode cX8_people 107 = .ok (.irem, 1) := by decide +kernel
theorem dX8_people_108 : decode cX8_people 108 = .ok (.iastore, 1) := by decide +kernel
theorem dX8_people_109 : decode cX8_people 109 = .ok (.aload_n 0, 1) := by decide +kernel
theorem dX8_people_110 : decode cX8_people 110 = .ok (.dup, 1) := by decide +kernel
theorem dX8_people_111 : decode cX8_people 111 = .ok (.getfield 129, 3) := by decide +kernel
theorem dX8_people_114 : decode cX8_people 114 = .ok (.iconst 1, 1) := by decide +kernel
theorem dX8_people_115 : decode cX8_people 115 = .ok (.iadd, 1) := by decide +kernel
theorem dX8_people_116 : decode cX8_people 116 = .ok (.putfield 129, 3) := by decide +kernel
theorem dX8_people_119 : decode cX8_people 119 = .ok (.aload_n 0, 1) := by decide +kernel
theorem dX8_people_120 : decode cX8_people 120 = .ok (.getfield 129, 3) := by decide +kernel
theorem dX8_people_123 : decode cX8_people 123 = .ok (.iconst 1, 1) := by decide +kernel
theorem dX8_people_124 : decode cX8_people 124 = .ok (.isub, 1) := by decide +kernel
theorem dX8_people_125 : decode cX8_people 125 = .ok (.ireturn, 1) := by decide +kernel
theorem dX8_car_0 : decode cX8_car 0 = .ok (.iload_n 1, 1) := by decide +kernel
theorem dX8_car_1 : decode cX8_car 1 = .ok (.iconst 1, 1) := by decide +kernel
theorem dX8_car_2 : decode cX8_car 2 = .ok (.bipush 60, 2) := by decide +kernel
theorem dX8_car_4 : decode cX8_car 4 = .ok (.invokestatic 132, 3) := by decide +kernel
theorem dX8_car_7 : decode cX8_car 7 = .ok (.ifCond .eq 20, 3) := by decide +kernel
theorem dX8_car_10 : decode cX8_car 10 = .ok (.iload_n 2, 1) := by decide +kernel
theorem dX8_car_11 : decode cX8_car 11 = .ok (.iconst 1, 1) := by decide +kernel
theorem dX8_car_12 : decode cX8_car 12 = .ok (.bipush 30, 2) := by decide +kernel
theorem dX8_car_14 : decode cX8_car 14 = .ok (.invokestatic 132, 3) := by decide +kernel
theorem dX8_car_17 : decode cX8_car 17 = .ok (.ifCond .eq 10, 3) := by decide +kernel
theorem dX8_car_20 : decode cX8_car 20 = .ok (.iload_n 3, 1) := by decide +kernel
theorem dX8_car_21 : decode cX8_car 21 = .ok (.invokestatic 139, 3) := by decide +kernel
theorem dX8_car_24 : decode cX8_car 24 = .ok (.ifCond .ne 6, 3) := by decide +kernel
theorem dX8_car_27 : decode cX8_car 27 = .ok (.bipush (-2), 2) := by decide +kernel
theorem dX8_car_29 : decode cX8_car 29 = .ok (.ireturn, 1) := by decide +kernel
theorem dX8_car_30 : decode cX8_car 30 = .ok (.aload_n 0, 1) := by decide +kernel
theorem dX8_car_31 : decode cX8_car 31 = .ok (.getfield 143, 3) := by decide +kernel
theorem dX8_car_34 : decode cX8_car 34 = .ok (.iconst 4, 1) := by decide +kernel
theorem dX8_car_35 : decode cX8_car 35 = .ok (.if_icmp .ne 6, 3) := by decide +kernel
theorem dX8_car_38 : decode cX8_car 38 = .ok (.bipush (-4), 2) := by decide +kernel
theorem dX8_car_40 : decode cX8_car 40 = .ok (.ireturn, 1) := by decide +kernel
theorem dX8_car_41 : decode cX8_car 41 = .ok (.aload_n 0, 1) := by decide +kernel
theorem dX8_car_42 : decode cX8_car 42 = .ok (.getfield 22, 3) := by decide +kernel
theorem dX8_car_45 : decode cX8_car 45 = .ok (.aload_n 0, 1) := by decide +kernel
theorem dX8_car_46 : decode cX8_car 46 = .ok (.getfield 143, 3) := by decide +kernel
theorem dX8_car_49 : decode cX8_car 49 = .ok (.iload_n 1, 1) := by decide +kernel
theorem dX8_car_50 : decode cX8_car 50 = .ok (.iastore, 1) := by decide +kernel
theorem dX8_car_51 : decode cX8_car 51 = .ok (.aload_n 0, 1) := by decide +kernel
theorem dX8_car_52 : decode cX8_car 52 = .ok (.getfield 25, 3) := by decide +kernel
theorem dX8_car_55 : decode cX8_car 55 = .ok (.aload_n 0, 1) := by decide +kernel
theorem dX8_car_56 : decode cX8_car 56 = .ok (.getfield 143, 3) := by decide +kernel
theorem dX8_car_59 : decode cX8_car 59 = .ok (.iload_n 2, 1) := by decide +kernel
theorem dX8_car_60 : decode cX8_car 60 = .ok (.iastore, 1) := by decide +kernel
theorem dX8_car_61 : decode cX8_car 61 = .ok (.aload_n 0, 1) := by decide +kernel
theorem dX8_car_62 : decode cX8_car 62 = .ok (.getfield 28, 3) := by decide +kernel
theorem dX8_car_65 : decode cX8_car 65 = .ok (.aload_n 0, 1) := by decide +kernel
theorem dX8_car_66 : decode cX8_car 66 = .ok (.getfield 143, 3) := by decide +kernel
theorem dX8_car_69 : decode cX8_car 69 = .ok (.iload_n 3, 1) := by decide +kernel
theorem dX8_car_70 : decode cX8_car 70 = .ok (.iastore, 1) := by decide +kernel
theorem dX8_car_71 : decode cX8_car 71 = .ok (.aload_n 0, 1) := by decide +kernel
theorem dX8_car_72 : decode cX8_car 72 = .ok (.dup, 1) := by decide +kernel
theorem dX8_car_73 : decode cX8_car 73 = .ok (.getfield 143, 3) := by decide +kernel
theorem dX8_car_76 : decode cX8_car 76 = .ok (.iconst 1, 1) := by decide +kernel
theorem dX8_car_77 : decode cX8_car 77 = .ok (.iadd, 1) := by decide +kernel
theorem dX8_car_78 : decode cX8_car 78 = .ok (.putfield 143, 3) := by decide +kernel
theorem dX8_car_81 : decode cX8_car 81 = .ok (.aload_n 0, 1) := by decide +kernel
theorem dX8_car_82 : decode cX8_car 82 = .ok (.getfield 143, 3) := by decide +kernel
theorem dX8_car_85 : decode cX8_car 85 = .ok (.iconst 1, 1) := by decide +kernel
theorem dX8_car_86 : decode cX8_car 86 = .ok (.isub, 1) := by decide +kernel
theorem dX8_car_87 : decode cX8_car 87 = .ok (.ireturn, 1) := by decide +kernel
theorem dX8_way_0 : decode cX8_way 0 = .ok (.iload_n 1, 1) := by decide +kernel
theorem dX8_way_1 : decode cX8_way 1 = .ok (.iconst 0, 1) := by decide +kernel
theorem dX8_way_2 : decode cX8_way 2 = .ok (.iconst 5, 1) := by decide +kernel
theorem dX8_way_3 : decode cX8_way 3 = .ok (.invokestatic 132, 3) := by decide +kernel
theorem dX8_way_6 : decode cX8_way 6 = .ok (.ifCond .eq 20, 3) := by decide +kernel
theorem dX8_way_9 : decode cX8_way 9 = .ok (.iload_n 2, 1) := by decide +kernel
theorem dX8_way_10 : decode cX8_way 10 = .ok (.invokestatic 139, 3) := by decide +kernel
theorem dX8_way_13 : decode cX8_way 13 = .ok (.ifCond .eq 13, 3) := by decide +kernel
theorem dX8_way_16 : decode cX8_way 16 = .ok (.iload_n 3, 1) := by decide +kernel
theorem dX8_way_17 : decode cX8_way 17 = .ok (.iconst 0, 1) := by decide +kernel
theorem dX8_way_18 : decode cX8_way 18 = .ok (.bipush 9, 2) := by decide +kernel
theorem dX8_way_20 : decode cX8_way 20 = .ok (.invokestatic 132, 3) := by decide +kernel
theorem dX8_way_23 : decode cX8_way 23 = .ok (.ifCond .ne 6, 3) := by decide +kernel
theorem dX8_way_26 : decode cX8_way 26 = .ok (.bipush (-2), 2) := by decide +kernel
theorem dX8_way_28 : decode cX8_way 28 = .ok (.ireturn, 1) := by decide +kernel
theorem dX8_way_29 : decode cX8_way 29 = .ok (.aload_n 0, 1) := by decide +kernel
theorem dX8_way_30 : decode cX8_way 30 = .ok (.getfield 136, 3) := by decide +kernel
theorem dX8_way_33 : decode cX8_way 33 = .ok (.bipush 8, 2) := by decide +kernel
theorem dX8_way_35 : decode cX8_way 35 = .ok (.if_icmp .ne 6, 3) := by decide +kernel
theorem dX8_way_38 : decode cX8_way 38 = .ok (.bipush (-4), 2) := by decide +kernel
theorem dX8_way_40 : decode cX8_way 40 = .ok (.ireturn, 1) := by decide +kernel
theorem dX8_way_41 : decode cX8_way 41 = .ok (.aload_n 0, 1) := by decide +kernel
theorem dX8_way_42 : decode cX8_way 42 = .ok (.getfield 31, 3) := by decide +kernel
theorem dX8_way_45 : decode cX8_way 45 = .ok (.aload_n 0, 1) := by decide +kernel
theorem dX8_way_46 : decode cX8_way 46 = .ok (.getfield 136, 3) := by decide +kernel
theorem dX8_way_49 : decode cX8_way 49 = .ok (.iload_n 1, 1) := by decide +kernel
theorem dX8_way_50 : decode cX8_way 50 = .ok (.iastore, 1) := by decide +kernel
theorem dX8_way_51 : decode cX8_way 51 = .ok (.aload_n 0, 1) := by decide +kernel
theorem dX8_way_52 : decode cX8_way 52 = .ok (.getfield 34, 3) := by decide +kernel
theorem dX8_way_55 : decode cX8_way 55 = .ok (.aload_n 0, 1) := by decide +kernel
theorem dX8_way_56 : decode cX8_way 56 = .ok (.getfield 136, 3) := by decide +kernel
theorem dX8_way_59 : decode cX8_way 59 = .ok (.iload_n 2, 1) := by decide +kernel
theorem dX8_way_60 : decode cX8_way 60 = .ok (.iastore, 1) := by decide +kernel
theorem dX8_way_61 : decode cX8_way 61 = .ok (.aload_n 0, 1) := by decide +kernel
theorem dX8_way_62 : decode cX8_way 62 = .ok (.getfield 37, 3) := by decide +kernel
theorem dX8_way_65 : decode cX8_way 65 = .ok (.aload_n 0, 1) := by decide +kernel
theorem dX8_way_66 : decode cX8_way 66 = .ok (.getfield 136, 3) := by decide +kernel
theorem dX8_way_69 : decode cX8_way 69 = .ok (.iload_n 3, 1) := by decide +kernel
theorem dX8_way_70 : decode cX8_way 70 = .ok (.iastore, 1) := by decide +kernel
theorem dX8_way_71 : decode cX8_way 71 = .ok (.aload_n 0, 1) := by decide +kernel
theorem dX8_way_72 : decode cX8_way 72 = .ok (.dup, 1) := by decide +kernel
theorem dX8_way_73 : decode cX8_way 73 = .ok (.getfield 136, 3) := by decide +kernel
theorem dX8_way_76 : decode cX8_way 76 = .ok (.iconst 1, 1) := by decide +kernel
theorem dX8_way_77 : decode cX8_way 77 = .ok (.iadd, 1) := by decide +kernel
theorem dX8_way_78 : decode cX8_way 78 = .ok (.putfield 136, 3) := by decide +kernel
theorem dX8_way_81 : decode cX8_way 81 = .ok (.aload_n 0, 1) := by decide +kernel
theorem dX8_way_82 : decode cX8_way 82 = .ok (.getfield 136, 3) := by decide +kernel
theorem dX8_way_85 : decode cX8_way 85 = .ok (.iconst 1, 1) := by decide +kernel
theorem dX8_way_86 : decode cX8_way 86 = .ok (.isub, 1) := by decide +kernel
theorem dX8_way_87 : decode cX8_way 87 = .ok (.ireturn, 1) := by decide +kernel
theorem dX8_set_0 : decode cX8_set 0 = .ok (.iload_n 1, 1) := by decide +kernel
theorem dX8_set_1 : decode cX8_set 1 = .ok (.tableswitch 261 0 5 #[39, 79, 118, 157, 196, 234], 39) := by decide +kernel
theorem dX8_set_40 : decode cX8_set 40 = .ok (.aload_n 0, 1) := by decide +kernel
theorem dX8_set_41 : decode cX8_set 41 = .ok (.iload_n 2, 1) := by decide +kernel
theorem dX8_set_42 : decode cX8_set 42 = .ok (.invokevirtual 146, 3) := by decide +kernel
theorem dX8_set_45 : decode cX8_set 45 = .ok (.ifCond .eq 14, 3) := by decide +kernel
theorem dX8_set_48 : decode cX8_set 48 = .ok (.iload_n 3, 1) := by decide +kernel
theorem dX8_set_49 : decode cX8_set 49 = .ok (.iconst 0, 1) := by decide +kernel
theorem dX8_set_50 : decode cX8_set 50 = .ok (.sipush 400, 3) := by decide +kernel
theorem dX8_set_53 : decode cX8_set 53 = .ok (.invokestatic 132, 3) := by decide +kernel
theorem dX8_set_56 : decode cX8_set 56 = .ok (.ifCond .ne 6, 3) := by decide +kernel
theorem dX8_set_59 : decode cX8_set 59 = .ok (.bipush (-2), 2) := by decide +kernel
theorem dX8_set_61 : decode cX8_set 61 = .ok (.ireturn, 1) := by decide +kernel
theorem dX8_set_62 : decode cX8_set 62 = .ok (.aload_n 0, 1) := by decide +kernel
theorem dX8_set_63 : decode cX8_set 63 = .ok (.getfield 7, 3) := by decide +kernel
theorem dX8_set_66 : decode cX8_set 66 = .ok (.iload_n 2, 1) := by decide +kernel
theorem dX8_set_67 : decode cX8_set 67 = .ok (.iaload, 1) := by decide +kernel
theorem dX8_set_68 : decode cX8_set 68 = .ok (.istore 4, 2) := by decide +kernel
theorem dX8_set_70 : decode cX8_set 70 = .ok (.aload_n 0, 1) := by decide +kernel
theorem dX8_set_71 : decode cX8_set 71 = .ok (.getfield 7, 3) := by decide +kernel
theorem dX8_set_74 : decode cX8_set 74 = .ok (.iload_n 2, 1) := by decide +kernel
theorem dX8_set_75 : decode cX8_set 75 = .ok (.iload_n 3, 1) := by decide +kernel
theorem dX8_set_76 : decode cX8_set 76 = .ok (.iastore, 1) := by decide +kernel
theorem dX8_set_77 : decode cX8_set 77 = .ok (.iload 4, 2) := by decide +kernel
theorem dX8_set_79 : decode cX8_set 79 = .ok (.ireturn, 1) := by decide +kernel
theorem dX8_set_80 : decode cX8_set 80 = .ok (.aload_n 0, 1) := by decide +kernel
theorem dX8_set_81 : decode cX8_set 81 = .ok (.iload_n 2, 1) := by decide +kernel
theorem dX8_set_82 : decode cX8_set 82 = .ok (.invokevirtual 146, 3) := by decide +kernel
theorem dX8_set_85 : decode cX8_set 85 = .ok (.ifCond .eq 13, 3) := by decide +kernel
theorem dX8_set_88 : decode cX8_set 88 = .ok (.iload_n 3, 1) := by decide +kernel
theorem dX8_set_89 : decode cX8_set 89 = .ok (.iconst 0, 1) := by decide +kernel
theorem dX8_set_90 : decode cX8_set 90 = .ok (.bipush 40, 2) := by decide +kernel
theorem dX8_set_92 : decode cX8_set 92 = .ok (.invokestatic 132, 3) := by decide +kernel
theorem dX8_set_95 : decode cX8_set 95 = .ok (.ifCond .ne 6, 3) := by decide +kernel
theorem dX8_set_98 : decode cX8_set 98 = .ok (.bipush (-2), 2) := by decide +kernel
theorem dX8_set_100 : decode cX8_set 100 = .ok (.ireturn, 1) := by decide +kernel
theorem dX8_set_101 : decode cX8_set 101 = .ok (.aload_n 0, 1) := by decide +kernel
theorem dX8_set_102 : decode cX8_set 102 = .ok (.getfield 13, 3) := by decide +kernel
theorem dX8_set_105 : decode cX8_set 105 = .ok (.iload_n 2, 1) := by decide +kernel
theorem dX8_set_106 : decode cX8_set 106 = .ok (.iaload, 1) := by decide +kernel
theorem dX8_set_107 : decode cX8_set 107 = .ok (.istore 4, 2) := by decide +kernel
theorem dX8_set_109 : decode cX8_set 109 = .ok (.aload_n 0, 1) := by decide +kernel
theorem dX8_set_110 : decode cX8_set 110 = .ok (.getfield 13, 3) := by decide +kernel
theorem dX8_set_113 : decode cX8_set 113 = .ok (.iload_n 2, 1) := by decide +kernel
theorem dX8_set_114 : decode cX8_set 114 = .ok (.iload_n 3, 1) := by decide +kernel
theorem dX8_set_115 : decode cX8_set 115 = .ok (.iastore, 1) := by decide +kernel
theorem dX8_set_116 : decode cX8_set 116 = .ok (.iload 4, 2) := by decide +kernel
theorem dX8_set_118 : decode cX8_set 118 = .ok (.ireturn, 1) := by decide +kernel
theorem dX8_set_119 : decode cX8_set 119 = .ok (.aload_n 0, 1) := by decide +kernel
theorem dX8_set_120 : decode cX8_set 120 = .ok (.iload_n 2, 1) := by decide +kernel
theorem dX8_set_121 : decode cX8_set 121 = .ok (.invokevirtual 146, 3) := by decide +kernel
theorem dX8_set_124 : decode cX8_set 124 = .ok (.ifCond .eq 13, 3) := by decide +kernel
theorem dX8_set_127 : decode cX8_set 127 = .ok (.iload_n 3, 1) := by decide +kernel
theorem dX8_set_128 : decode cX8_set 128 = .ok (.iconst 1, 1) := by decide +kernel
theorem dX8_set_129 : decode cX8_set 129 = .ok (.bipush 60, 2) := by decide +kernel
theorem dX8_set_131 : decode cX8_set 131 = .ok (.invokestatic 132, 3) := by decide +kernel
theorem dX8_set_134 : decode cX8_set 134 = .ok (.ifCond .ne 6, 3) := by decide +kernel
theorem dX8_set_137 : decode cX8_set 137 = .ok (.bipush (-2), 2) := by decide +kernel
theorem dX8_set_139 : decode cX8_set 139 = .ok (.ireturn, 1) := by decide +kernel
theorem dX8_set_140 : decode cX8_set 140 = .ok (.aload_n 0, 1) := by decide +kernel
theorem dX8_set_141 : decode cX8_set 141 = .ok (.getfield 16, 3) := by decide +kernel
theorem dX8_set_144 : decode cX8_set 144 = .ok (.iload_n 2, 1) := by decide +kernel
theorem dX8_set_145 : decode cX8_set 145 = .ok (.iaload, 1) := by decide +kernel
theorem dX8_set_146 : decode cX8_set 146 = .ok (.istore 4, 2) := by decide +kernel
theorem dX8_set_148 : decode cX8_set 148 = .ok (.aload_n 0, 1) := by decide +kernel
theorem dX8_set_149 : decode cX8_set 149 = .ok (.getfield 16, 3) := by decide +kernel
theorem dX8_set_152 : decode cX8_set 152 = .ok (.iload_n 2, 1) := by decide +kernel
theorem dX8_set_153 : decode cX8_set 153 = .ok (.iload_n 3, 1) := by decide +kernel
theorem dX8_set_154 : decode cX8_set 154 = .ok (.iastore, 1) := by decide +kernel
theorem dX8_set_155 : decode cX8_set 155 = .ok (.iload 4, 2) := by decide +kernel
theorem dX8_set_157 : decode cX8_set 157 = .ok (.ireturn, 1) := by decide +kernel
theorem dX8_set_158 : decode cX8_set 158 = .ok (.aload_n 0, 1) := by decide +kernel
theorem dX8_set_159 : decode cX8_set 159 = .ok (.iload_n 2, 1) := by decide +kernel
theorem dX8_set_160 : decode cX8_set 160 = .ok (.invokevirtual 146, 3) := by decide +kernel
theorem dX8_set_163 : decode cX8_set 163 = .ok (.ifCond .eq 13, 3) := by decide +kernel
theorem dX8_set_166 : decode cX8_set 166 = .ok (.iload_n 3, 1) := by decide +kernel
theorem dX8_set_167 : decode cX8_set 167 = .ok (.iconst 0, 1) := by decide +kernel
theorem dX8_set_168 : decode cX8_set 168 = .ok (.bipush 9, 2) := by decide +kernel
theorem dX8_set_170 : decode cX8_set 170 = .ok (.invokestatic 132, 3) := by decide +kernel
theorem dX8_set_173 : decode cX8_set 173 = .ok (.ifCond .ne 6, 3) := by decide +kernel
theorem dX8_set_176 : decode cX8_set 176 = .ok (.bipush (-2), 2) := by decide +kernel
theorem dX8_set_178 : decode cX8_set 178 = .ok (.ireturn, 1) := by decide +kernel
theorem dX8_set_179 : decode cX8_set 179 = .ok (.aload_n 0, 1) := by decide +kernel
theorem dX8_set_180 : decode cX8_set 180 = .ok (.getfield 19, 3) := by decide +kernel
theorem dX8_set_183 : decode cX8_set 183 = .ok (.iload_n 2, 1) := by decide +kernel
theorem dX8_set_184 : decode cX8_set 184 = .ok (.iaload, 1) := by decide +kernel
theorem dX8_set_185 : decode cX8_set 185 = .ok (.istore 4, 2) := by decide +kernel
theorem dX8_set_187 : decode cX8_set 187 = .ok (.aload_n 0, 1) := by decide +kernel
theorem dX8_set_188 : decode cX8_set 188 = .ok (.getfield 19, 3) := by decide +kernel
theorem dX8_set_191 : decode cX8_set 191 = .ok (.iload_n 2, 1) := by decide +kernel
theorem dX8_set_192 : decode cX8_set 192 = .ok (.iload_n 3, 1) := by decide +kernel
theorem dX8_set_193 : decode cX8_set 193 = .ok (.iastore, 1) := by decide +kernel
theorem dX8_set_194 : decode cX8_set 194 = .ok (.iload 4, 2) := by decide +kernel
theorem dX8_set_196 : decode cX8_set 196 = .ok (.ireturn, 1) := by decide +kernel
theorem dX8_set_197 : decode cX8_set 197 = .ok (.iload_n 2, 1) := by decide +kernel
theorem dX8_set_198 : decode cX8_set 198 = .ok (.invokestatic 139, 3) := by decide +kernel
theorem dX8_set_201 : decode cX8_set 201 = .ok (.ifCond .eq 13, 3) := by decide +kernel
theorem dX8_set_204 : decode cX8_set 204 = .ok (.iload_n 3, 1) := by decide +kernel
theorem dX8_set_205 : decode cX8_set 205 = .ok (.iconst 0, 1) := by decide +kernel
theorem dX8_set_206 : decode cX8_set 206 = .ok (.bipush 9, 2) := by decide +kernel
theorem dX8_set_208 : decode cX8_set 208 = .ok (.invokestatic 132, 3) := by decide +kernel
theorem dX8_set_211 : decode cX8_set 211 = .ok (.ifCond .ne 6, 3) := by decide +kernel
theorem dX8_set_214 : decode cX8_set 214 = .ok (.bipush (-2), 2) := by decide +kernel
theorem dX8_set_216 : decode cX8_set 216 = .ok (.ireturn, 1) := by decide +kernel
theorem dX8_set_217 : decode cX8_set 217 = .ok (.aload_n 0, 1) := by decide +kernel
theorem dX8_set_218 : decode cX8_set 218 = .ok (.getfield 40, 3) := by decide +kernel
theorem dX8_set_221 : decode cX8_set 221 = .ok (.iload_n 2, 1) := by decide +kernel
theorem dX8_set_222 : decode cX8_set 222 = .ok (.iaload, 1) := by decide +kernel
theorem dX8_set_223 : decode cX8_set 223 = .ok (.istore 4, 2) := by decide +kernel
theorem dX8_set_225 : decode cX8_set 225 = .ok (.aload_n 0, 1) := by decide +kernel
theorem dX8_set_226 : decode cX8_set 226 = .ok (.getfield 40, 3) := by decide +kernel
theorem dX8_set_229 : decode cX8_set 229 = .ok (.iload_n 2, 1) := by decide +kernel
theorem dX8_set_230 : decode cX8_set 230 = .ok (.iload_n 3, 1) := by decide +kernel
theorem dX8_set_231 : decode cX8_set 231 = .ok (.iastore, 1) := by decide +kernel
theorem dX8_set_232 : decode cX8_set 232 = .ok (.iload 4, 2) := by decide +kernel
theorem dX8_set_234 : decode cX8_set 234 = .ok (.ireturn, 1) := by decide +kernel
theorem dX8_set_235 : decode cX8_set 235 = .ok (.iload_n 3, 1) := by decide +kernel
theorem dX8_set_236 : decode cX8_set 236 = .ok (.iconst 1, 1) := by decide +kernel
theorem dX8_set_237 : decode cX8_set 237 = .ok (.bipush 120, 2) := by decide +kernel
theorem dX8_set_239 : decode cX8_set 239 = .ok (.invokestatic 132, 3) := by decide +kernel
theorem dX8_set_242 : decode cX8_set 242 = .ok (.ifCond .ne 6, 3) := by decide +kernel
theorem dX8_set_245 : decode cX8_set 245 = .ok (.bipush (-2), 2) := by decide +kernel
theorem dX8_set_247 : decode cX8_set 247 = .ok (.ireturn, 1) := by decide +kernel
theorem dX8_set_248 : decode cX8_set 248 = .ok (.aload_n 0, 1) := by decide +kernel
theorem dX8_set_249 : decode cX8_set 249 = .ok (.getfield 43, 3) := by decide +kernel
theorem dX8_set_252 : decode cX8_set 252 = .ok (.istore 4, 2) := by decide +kernel
theorem dX8_set_254 : decode cX8_set 254 = .ok (.aload_n 0, 1) := by decide +kernel
theorem dX8_set_255 : decode cX8_set 255 = .ok (.iload_n 3, 1) := by decide +kernel
theorem dX8_set_256 : decode cX8_set 256 = .ok (.putfield 43, 3) := by decide +kernel
theorem dX8_set_259 : decode cX8_set 259 = .ok (.iload 4, 2) := by decide +kernel
theorem dX8_set_261 : decode cX8_set 261 = .ok (.ireturn, 1) := by decide +kernel
theorem dX8_set_262 : decode cX8_set 262 = .ok (.bipush (-2), 2) := by decide +kernel
theorem dX8_set_264 : decode cX8_set 264 = .ok (.ireturn, 1) := by decide +kernel
theorem dX8_shut_0 : decode cX8_shut 0 = .ok (.iload_n 1, 1) := by decide +kernel
theorem dX8_shut_1 : decode cX8_shut 1 = .ok (.iconst (-1), 1) := by decide +kernel
theorem dX8_shut_2 : decode cX8_shut 2 = .ok (.if_icmp .eq 23, 3) := by decide +kernel
theorem dX8_shut_5 : decode cX8_shut 5 = .ok (.iload_n 1, 1) := by decide +kernel
theorem dX8_shut_6 : decode cX8_shut 6 = .ok (.invokestatic 139, 3) := by decide +kernel
theorem dX8_shut_9 : decode cX8_shut 9 = .ok (.ifCond .eq 13, 3) := by decide +kernel
theorem dX8_shut_12 : decode cX8_shut 12 = .ok (.iload_n 2, 1) := by decide +kernel
theorem dX8_shut_13 : decode cX8_shut 13 = .ok (.iload_n 1, 1) := by decide +kernel
theorem dX8_shut_14 : decode cX8_shut 14 = .ok (.bipush 119, 2) := by decide +kernel
theorem dX8_shut_16 : decode cX8_shut 16 = .ok (.invokestatic 132, 3) := by decide +kernel
theorem dX8_shut_19 : decode cX8_shut 19 = .ok (.ifCond .ne 6, 3) := by decide +kernel
theorem dX8_shut_22 : decode cX8_shut 22 = .ok (.bipush (-2), 2) := by decide +kernel
theorem dX8_shut_24 : decode cX8_shut 24 = .ok (.ireturn, 1) := by decide +kernel
theorem dX8_shut_25 : decode cX8_shut 25 = .ok (.aload_n 0, 1) := by decide +kernel
theorem dX8_shut_26 : decode cX8_shut 26 = .ok (.iload_n 1, 1) := by decide +kernel
theorem dX8_shut_27 : decode cX8_shut 27 = .ok (.putfield 47, 3) := by decide +kernel
theorem dX8_shut_30 : decode cX8_shut 30 = .ok (.aload_n 0, 1) := by decide +kernel
theorem dX8_shut_31 : decode cX8_shut 31 = .ok (.iload_n 2, 1) := by decide +kernel
theorem dX8_shut_32 : decode cX8_shut 32 = .ok (.putfield 149, 3) := by decide +kernel
theorem dX8_shut_35 : decode cX8_shut 35 = .ok (.iconst 1, 1) := by decide +kernel
theorem dX8_shut_36 : decode cX8_shut 36 = .ok (.ireturn, 1) := by decide +kernel
theorem dX8_isShut_0 : decode cX8_isShut 0 = .ok (.aload_n 0, 1) := by decide +kernel
theorem dX8_isShut_1 : decode cX8_isShut 1 = .ok (.getfield 47, 3) := by decide +kernel
theorem dX8_isShut_4 : decode cX8_isShut 4 = .ok (.ifCond .lt 23, 3) := by decide +kernel
theorem dX8_isShut_7 : decode cX8_isShut 7 = .ok (.iload_n 1, 1) := by decide +kernel
theorem dX8_isShut_8 : decode cX8_isShut 8 = .ok (.aload_n 0, 1) := by decide +kernel
theorem dX8_isShut_9 : decode cX8_isShut 9 = .ok (.getfield 47, 3) := by decide +kernel
theorem dX8_isShut_12 : decode cX8_isShut 12 = .ok (.if_icmp .lt 15, 3) := by decide +kernel
theorem dX8_isShut_15 : decode cX8_isShut 15 = .ok (.iload_n 1, 1) := by decide +kernel
theorem dX8_isShut_16 : decode cX8_isShut 16 = .ok (.aload_n 0, 1) := by decide +kernel
theorem dX8_isShut_17 : decode cX8_isShut 17 = .ok (.getfield 149, 3) := by decide +kernel
theorem dX8_isShut_20 : decode cX8_isShut 20 = .ok (.if_icmp .gt 7, 3) := by decide +kernel
theorem dX8_isShut_23 : decode cX8_isShut 23 = .ok (.iconst 1, 1) := by decide +kernel
theorem dX8_isShut_24 : decode cX8_isShut 24 = .ok (.goto 4, 3) := by decide +kernel
theorem dX8_isShut_27 : decode cX8_isShut 27 = .ok (.iconst 0, 1) := by decide +kernel
theorem dX8_isShut_28 : decode cX8_isShut 28 = .ok (.ireturn, 1) := by decide +kernel
theorem dX8_calls_0 : decode cX8_calls 0 = .ok (.aload_n 0, 1) := by decide +kernel
theorem dX8_calls_1 : decode cX8_calls 1 = .ok (.getfield 50, 3) := by decide +kernel
theorem dX8_calls_4 : decode cX8_calls 4 = .ok (.ifCond .lt 35, 3) := by decide +kernel
theorem dX8_calls_7 : decode cX8_calls 7 = .ok (.iload_n 2, 1) := by decide +kernel
theorem dX8_calls_8 : decode cX8_calls 8 = .ok (.aload_n 0, 1) := by decide +kernel
theorem dX8_calls_9 : decode cX8_calls 9 = .ok (.getfield 117, 3) := by decide +kernel
theorem dX8_calls_12 : decode cX8_calls 12 = .ok (.aload_n 0, 1) := by decide +kernel
theorem dX8_calls_13 : decode cX8_calls 13 = .ok (.getfield 50, 3) := by decide +kernel
theorem dX8_calls_16 : decode cX8_calls 16 = .ok (.iaload, 1) := by decide +kernel
theorem dX8_calls_17 : decode cX8_calls 17 = .ok (.if_icmp .ge 20, 3) := by decide +kernel
theorem dX8_calls_20 : decode cX8_calls 20 = .ok (.aload_n 0, 1) := by decide +kernel
theorem dX8_calls_21 : decode cX8_calls 21 = .ok (.getfield 120, 3) := by decide +kernel
theorem dX8_calls_24 : decode cX8_calls 24 = .ok (.bipush 40, 2) := by decide +kernel
theorem dX8_calls_26 : decode cX8_calls 26 = .ok (.aload_n 0, 1) := by decide +kernel
theorem dX8_calls_27 : decode cX8_calls 27 = .ok (.getfield 50, 3) := by decide +kernel
theorem dX8_calls_30 : decode cX8_calls 30 = .ok (.imul, 1) := by decide +kernel
theorem dX8_calls_31 : decode cX8_calls 31 = .ok (.iload_n 2, 1) := by decide +kernel
theorem dX8_calls_32 : decode cX8_calls 32 = .ok (.iadd, 1) := by decide +kernel
theorem dX8_calls_33 : decode cX8_calls 33 = .ok (.iaload, 1) := by decide +kernel
theorem dX8_calls_34 : decode cX8_calls 34 = .ok (.goto 4, 3) := by decide +kernel
theorem dX8_calls_37 : decode cX8_calls 37 = .ok (.iconst 0, 1) := by decide +kernel
theorem dX8_calls_38 : decode cX8_calls 38 = .ok (.ireturn, 1) := by decide +kernel
theorem dX8_calls_39 : decode cX8_calls 39 = .ok (.aload_n 0, 1) := by decide +kernel
theorem dX8_calls_40 : decode cX8_calls 40 = .ok (.getfield 31, 3) := by decide +kernel
theorem dX8_calls_43 : decode cX8_calls 43 = .ok (.iload_n 1, 1) := by decide +kernel
theorem dX8_calls_44 : decode cX8_calls 44 = .ok (.iaload, 1) := by decide +kernel
theorem dX8_calls_45 : decode cX8_calls 45 = .ok (.ifCond .eq 33, 3) := by decide +kernel
theorem dX8_calls_48 : decode cX8_calls 48 = .ok (.aload_n 0, 1) := by decide +kernel
theorem dX8_calls_49 : decode cX8_calls 49 = .ok (.getfield 31, 3) := by decide +kernel
theorem dX8_calls_52 : decode cX8_calls 52 = .ok (.iload_n 1, 1) := by decide +kernel
theorem dX8_calls_53 : decode cX8_calls 53 = .ok (.iaload, 1) := by decide +kernel
theorem dX8_calls_54 : decode cX8_calls 54 = .ok (.iconst 2, 1) := by decide +kernel
theorem dX8_calls_55 : decode cX8_calls 55 = .ok (.if_icmp .eq 23, 3) := by decide +kernel
theorem dX8_calls_58 : decode cX8_calls 58 = .ok (.aload_n 0, 1) := by decide +kernel
theorem dX8_calls_59 : decode cX8_calls 59 = .ok (.getfield 31, 3) := by decide +kernel
theorem dX8_calls_62 : decode cX8_calls 62 = .ok (.iload_n 1, 1) := by decide +kernel
theorem dX8_calls_63 : decode cX8_calls 63 = .ok (.iaload, 1) := by decide +kernel
theorem dX8_calls_64 : decode cX8_calls 64 = .ok (.iconst 4, 1) := by decide +kernel
theorem dX8_calls_65 : decode cX8_calls 65 = .ok (.if_icmp .eq 13, 3) := by decide +kernel
theorem dX8_calls_68 : decode cX8_calls 68 = .ok (.iload_n 2, 1) := by decide +kernel
theorem dX8_calls_69 : decode cX8_calls 69 = .ok (.aload_n 0, 1) := by decide +kernel
theorem dX8_calls_70 : decode cX8_calls 70 = .ok (.getfield 34, 3) := by decide +kernel
theorem dX8_calls_73 : decode cX8_calls 73 = .ok (.iload_n 1, 1) := by decide +kernel
theorem dX8_calls_74 : decode cX8_calls 74 = .ok (.iaload, 1) := by decide +kernel
theorem dX8_calls_75 : decode cX8_calls 75 = .ok (.if_icmp .ge 5, 3) := by decide +kernel
theorem dX8_calls_78 : decode cX8_calls 78 = .ok (.iconst 0, 1) := by decide +kernel
theorem dX8_calls_79 : decode cX8_calls 79 = .ok (.ireturn, 1) := by decide +kernel
theorem dX8_calls_80 : decode cX8_calls 80 = .ok (.aload_n 0, 1) := by decide +kernel
theorem dX8_calls_81 : decode cX8_calls 81 = .ok (.getfield 37, 3) := by decide +kernel
theorem dX8_calls_84 : decode cX8_calls 84 = .ok (.iload_n 1, 1) := by decide +kernel
theorem dX8_calls_85 : decode cX8_calls 85 = .ok (.iaload, 1) := by decide +kernel
theorem dX8_calls_86 : decode cX8_calls 86 = .ok (.istore_n 3, 1) := by decide +kernel
theorem dX8_calls_87 : decode cX8_calls 87 = .ok (.aload_n 0, 1) := by decide +kernel
theorem dX8_calls_88 : decode cX8_calls 88 = .ok (.getfield 31, 3) := by decide +kernel
theorem dX8_calls_91 : decode cX8_calls 91 = .ok (.iload_n 1, 1) := by decide +kernel
theorem dX8_calls_92 : decode cX8_calls 92 = .ok (.iaload, 1) := by decide +kernel
theorem dX8_calls_93 : decode cX8_calls 93 = .ok (.iconst 1, 1) := by decide +kernel
theorem dX8_calls_94 : decode cX8_calls 94 = .ok (.if_icmp .ne 5, 3) := by decide +kernel
theorem dX8_calls_97 : decode cX8_calls 97 = .ok (.iload_n 3, 1) := by decide +kernel
theorem dX8_calls_98 : decode cX8_calls 98 = .ok (.ireturn, 1) := by decide +kernel
theorem dX8_calls_99 : decode cX8_calls 99 = .ok (.iload_n 2, 1) := by decide +kernel
theorem dX8_calls_100 : decode cX8_calls 100 = .ok (.aload_n 0, 1) := by decide +kernel
theorem dX8_calls_101 : decode cX8_calls 101 = .ok (.getfield 34, 3) := by decide +kernel
theorem dX8_calls_104 : decode cX8_calls 104 = .ok (.iload_n 1, 1) := by decide +kernel
theorem dX8_calls_105 : decode cX8_calls 105 = .ok (.iaload, 1) := by decide +kernel
theorem dX8_calls_106 : decode cX8_calls 106 = .ok (.isub, 1) := by decide +kernel
theorem dX8_calls_107 : decode cX8_calls 107 = .ok (.bipush 10, 2) := by decide +kernel
theorem dX8_calls_109 : decode cX8_calls 109 = .ok (.irem, 1) := by decide +kernel
theorem dX8_calls_110 : decode cX8_calls 110 = .ok (.ifCond .ne 9, 3) := by decide +kernel
theorem dX8_calls_113 : decode cX8_calls 113 = .ok (.iload_n 3, 1) := by decide +kernel
theorem dX8_calls_114 : decode cX8_calls 114 = .ok (.iconst 5, 1) := by decide +kernel
theorem dX8_calls_115 : decode cX8_calls 115 = .ok (.iadd, 1) := by decide +kernel
theorem dX8_calls_116 : decode cX8_calls 116 = .ok (.goto 4, 3) := by decide +kernel
theorem dX8_calls_119 : decode cX8_calls 119 = .ok (.iload_n 3, 1) := by decide +kernel
theorem dX8_calls_120 : decode cX8_calls 120 = .ok (.istore 4, 2) := by decide +kernel
theorem dX8_calls_122 : decode cX8_calls 122 = .ok (.aload_n 0, 1) := by decide +kernel
theorem dX8_calls_123 : decode cX8_calls 123 = .ok (.getfield 31, 3) := by decide +kernel
theorem dX8_calls_126 : decode cX8_calls 126 = .ok (.iload_n 1, 1) := by decide +kernel
theorem dX8_calls_127 : decode cX8_calls 127 = .ok (.iaload, 1) := by decide +kernel
theorem dX8_calls_128 : decode cX8_calls 128 = .ok (.iconst 3, 1) := by decide +kernel
theorem dX8_calls_129 : decode cX8_calls 129 = .ok (.if_icmp .ne 8, 3) := by decide +kernel
theorem dX8_calls_132 : decode cX8_calls 132 = .ok (.iload 4, 2) := by decide +kernel
theorem dX8_calls_134 : decode cX8_calls 134 = .ok (.goto 7, 3) := by decide +kernel
theorem dX8_calls_137 : decode cX8_calls 137 = .ok (.iconst 2, 1) := by decide +kernel
theorem dX8_calls_138 : decode cX8_calls 138 = .ok (.iload 4, 2) := by decide +kernel
theorem dX8_calls_140 : decode cX8_calls 140 = .ok (.imul, 1) := by decide +kernel
theorem dX8_calls_141 : decode cX8_calls 141 = .ok (.ireturn, 1) := by decide +kernel
theorem dX8_asks_0 : decode cX8_asks 0 = .ok (.aload_n 0, 1) := by decide +kernel
theorem dX8_asks_1 : decode cX8_asks 1 = .ok (.getfield 50, 3) := by decide +kernel
theorem dX8_asks_4 : decode cX8_asks 4 = .ok (.ifCond .lt 5, 3) := by decide +kernel
theorem dX8_asks_7 : decode cX8_asks 7 = .ok (.iconst 1, 1) := by decide +kernel
theorem dX8_asks_8 : decode cX8_asks 8 = .ok (.ireturn, 1) := by decide +kernel
theorem dX8_asks_9 : decode cX8_asks 9 = .ok (.iload_n 2, 1) := by decide +kernel
theorem dX8_asks_10 : decode cX8_asks 10 = .ok (.aload_n 0, 1) := by decide +kernel
theorem dX8_asks_11 : decode cX8_asks 11 = .ok (.getfield 34, 3) := by decide +kernel
theorem dX8_asks_14 : decode cX8_asks 14 = .ok (.iload_n 1, 1) := by decide +kernel
theorem dX8_asks_15 : decode cX8_asks 15 = .ok (.iaload, 1) := by decide +kernel
theorem dX8_asks_16 : decode cX8_asks 16 = .ok (.if_icmp .lt 14, 3) := by decide +kernel
theorem dX8_asks_19 : decode cX8_asks 19 = .ok (.iconst 1, 1) := by decide +kernel
theorem dX8_asks_20 : decode cX8_asks 20 = .ok (.aload_n 0, 1) := by decide +kernel
theorem dX8_asks_21 : decode cX8_asks 21 = .ok (.getfield 37, 3) := by decide +kernel
theorem dX8_asks_24 : decode cX8_asks 24 = .ok (.iload_n 1, 1) := by decide +kernel
theorem dX8_asks_25 : decode cX8_asks 25 = .ok (.iaload, 1) := by decide +kernel
theorem dX8_asks_26 : decode cX8_asks 26 = .ok (.iadd, 1) := by decide +kernel
theorem dX8_asks_27 : decode cX8_asks 27 = .ok (.goto 4, 3) := by decide +kernel
theorem dX8_asks_30 : decode cX8_asks 30 = .ok (.iconst 1, 1) := by decide +kernel
theorem dX8_asks_31 : decode cX8_asks 31 = .ok (.istore_n 3, 1) := by decide +kernel
theorem dX8_asks_32 : decode cX8_asks 32 = .ok (.aload_n 0, 1) := by decide +kernel
theorem dX8_asks_33 : decode cX8_asks 33 = .ok (.getfield 31, 3) := by decide +kernel
theorem dX8_asks_36 : decode cX8_asks 36 = .ok (.iload_n 1, 1) := by decide +kernel
theorem dX8_asks_37 : decode cX8_asks 37 = .ok (.iaload, 1) := by decide +kernel
theorem dX8_asks_38 : decode cX8_asks 38 = .ok (.tableswitch 45 2 5 #[30, 36, 32, 38], 30) := by decide +kernel
theorem dX8_asks_68 : decode cX8_asks 68 = .ok (.iload_n 3, 1) := by decide +kernel
theorem dX8_asks_69 : decode cX8_asks 69 = .ok (.ireturn, 1) := by decide +kernel
theorem dX8_asks_70 : decode cX8_asks 70 = .ok (.iconst 2, 1) := by decide +kernel
theorem dX8_asks_71 : decode cX8_asks 71 = .ok (.iload_n 3, 1) := by decide +kernel
theorem dX8_asks_72 : decode cX8_asks 72 = .ok (.imul, 1) := by decide +kernel
theorem dX8_asks_73 : decode cX8_asks 73 = .ok (.ireturn, 1) := by decide +kernel
theorem dX8_asks_74 : decode cX8_asks 74 = .ok (.iconst 0, 1) := by decide +kernel
theorem dX8_asks_75 : decode cX8_asks 75 = .ok (.ireturn, 1) := by decide +kernel
theorem dX8_asks_76 : decode cX8_asks 76 = .ok (.aload_n 0, 1) := by decide +kernel
theorem dX8_asks_77 : decode cX8_asks 77 = .ok (.getfield 37, 3) := by decide +kernel
theorem dX8_asks_80 : decode cX8_asks 80 = .ok (.iload_n 1, 1) := by decide +kernel
theorem dX8_asks_81 : decode cX8_asks 81 = .ok (.iaload, 1) := by decide +kernel
theorem dX8_asks_82 : decode cX8_asks 82 = .ok (.ireturn, 1) := by decide +kernel
theorem dX8_asks_83 : decode cX8_asks 83 = .ok (.iconst 1, 1) := by decide +kernel
theorem dX8_asks_84 : decode cX8_asks 84 = .ok (.ireturn, 1) := by decide +kernel
theorem dX8_orderOf_0 : decode cX8_orderOf 0 = .ok (.aload_n 0, 1) := by decide +kernel
theorem dX8_orderOf_1 : decode cX8_orderOf 1 = .ok (.getfield 50, 3) := by decide +kernel
theorem dX8_orderOf_4 : decode cX8_orderOf 4 = .ok (.ifCond .lt 7, 3) := by decide +kernel
theorem dX8_orderOf_7 : decode cX8_orderOf 7 = .ok (.iconst 0, 1) := by decide +kernel
theorem dX8_orderOf_8 : decode cX8_orderOf 8 = .ok (.goto 42, 3) := by decide +kernel
theorem dX8_orderOf_11 : decode cX8_orderOf 11 = .ok (.aload_n 0, 1) := by decide +kernel
theorem dX8_orderOf_12 : decode cX8_orderOf 12 = .ok (.getfield 31, 3) := by decide +kernel
theorem dX8_orderOf_15 : decode cX8_orderOf 15 = .ok (.iload_n 1, 1) := by decide +kernel
theorem dX8_orderOf_16 : decode cX8_orderOf 16 = .ok (.iaload, 1) := by decide +kernel
theorem dX8_orderOf_17 : decode cX8_orderOf 17 = .ok (.iconst 3, 1) := by decide +kernel
theorem dX8_orderOf_18 : decode cX8_orderOf 18 = .ok (.if_icmp .eq 13, 3) := by decide +kernel
theorem dX8_orderOf_21 : decode cX8_orderOf 21 = .ok (.aload_n 0, 1) := by decide +kernel
theorem dX8_orderOf_22 : decode cX8_orderOf 22 = .ok (.getfield 31, 3) := by decide +kernel
theorem dX8_orderOf_25 : decode cX8_orderOf 25 = .ok (.iload_n 1, 1) := by decide +kernel
theorem dX8_orderOf_26 : decode cX8_orderOf 26 = .ok (.iaload, 1) := by decide +kernel
theorem dX8_orderOf_27 : decode cX8_orderOf 27 = .ok (.iconst 5, 1) := by decide +kernel
theorem dX8_orderOf_28 : decode cX8_orderOf 28 = .ok (.if_icmp .ne 7, 3) := by decide +kernel
theorem dX8_orderOf_31 : decode cX8_orderOf 31 = .ok (.iconst 1, 1) := by decide +kernel
theorem dX8_orderOf_32 : decode cX8_orderOf 32 = .ok (.goto 18, 3) := by decide +kernel
theorem dX8_orderOf_35 : decode cX8_orderOf 35 = .ok (.aload_n 0, 1) := by decide +kernel
theorem dX8_orderOf_36 : decode cX8_orderOf 36 = .ok (.getfield 31, 3) := by decide +kernel
theorem dX8_orderOf_39 : decode cX8_orderOf 39 = .ok (.iload_n 1, 1) := by decide +kernel
theorem dX8_orderOf_40 : decode cX8_orderOf 40 = .ok (.iaload, 1) := by decide +kernel
theorem dX8_orderOf_41 : decode cX8_orderOf 41 = .ok (.iconst 4, 1) := by decide +kernel
theorem dX8_orderOf_42 : decode cX8_orderOf 42 = .ok (.if_icmp .ne 7, 3) := by decide +kernel
theorem dX8_orderOf_45 : decode cX8_orderOf 45 = .ok (.iconst 2, 1) := by decide +kernel
theorem dX8_orderOf_46 : decode cX8_orderOf 46 = .ok (.goto 4, 3) := by decide +kernel
theorem dX8_orderOf_49 : decode cX8_orderOf 49 = .ok (.iconst 0, 1) := by decide +kernel
theorem dX8_orderOf_50 : decode cX8_orderOf 50 = .ok (.ireturn, 1) := by decide +kernel
theorem dX8_told_0 : decode cX8_told 0 = .ok (.aload_n 0, 1) := by decide +kernel
theorem dX8_told_1 : decode cX8_told 1 = .ok (.iload_n 1, 1) := by decide +kernel
theorem dX8_told_2 : decode cX8_told 2 = .ok (.invokevirtual 152, 3) := by decide +kernel
theorem dX8_told_5 : decode cX8_told 5 = .ok (.ifCond .eq 10, 3) := by decide +kernel
theorem dX8_told_8 : decode cX8_told 8 = .ok (.iload_n 2, 1) := by decide +kernel
theorem dX8_told_9 : decode cX8_told 9 = .ok (.invokestatic 139, 3) := by decide +kernel
theorem dX8_told_12 : decode cX8_told 12 = .ok (.ifCond .ne 6, 3) := by decide +kernel
theorem dX8_told_15 : decode cX8_told 15 = .ok (.bipush (-2), 2) := by decide +kernel
theorem dX8_told_17 : decode cX8_told 17 = .ok (.ireturn, 1) := by decide +kernel
theorem dX8_told_18 : decode cX8_told 18 = .ok (.iload_n 3, 1) := by decide +kernel
theorem dX8_told_19 : decode cX8_told 19 = .ok (.tableswitch 68 0 4 #[33, 40, 47, 54, 61], 33) := by decide +kernel
theorem dX8_told_52 : decode cX8_told 52 = .ok (.aload_n 0, 1) := by decide +kernel
theorem dX8_told_53 : decode cX8_told 53 = .ok (.getfield 31, 3) := by decide +kernel
theorem dX8_told_56 : decode cX8_told 56 = .ok (.iload_n 1, 1) := by decide +kernel
theorem dX8_told_57 : decode cX8_told 57 = .ok (.iaload, 1) := by decide +kernel
theorem dX8_told_58 : decode cX8_told 58 = .ok (.ireturn, 1) := by decide +kernel
theorem dX8_told_59 : decode cX8_told 59 = .ok (.aload_n 0, 1) := by decide +kernel
theorem dX8_told_60 : decode cX8_told 60 = .ok (.getfield 34, 3) := by decide +kernel
theorem dX8_told_63 : decode cX8_told 63 = .ok (.iload_n 1, 1) := by decide +kernel
theorem dX8_told_64 : decode cX8_told 64 = .ok (.iaload, 1) := by decide +kernel
theorem dX8_told_65 : decode cX8_told 65 = .ok (.ireturn, 1) := by decide +kernel
theorem dX8_told_66 : decode cX8_told 66 = .ok (.aload_n 0, 1) := by decide +kernel
theorem dX8_told_67 : decode cX8_told 67 = .ok (.getfield 37, 3) := by decide +kernel
theorem dX8_told_70 : decode cX8_told 70 = .ok (.iload_n 1, 1) := by decide +kernel
theorem dX8_told_71 : decode cX8_told 71 = .ok (.iaload, 1) := by decide +kernel
theorem dX8_told_72 : decode cX8_told 72 = .ok (.ireturn, 1) := by decide +kernel
theorem dX8_told_73 : decode cX8_told 73 = .ok (.aload_n 0, 1) := by decide +kernel
theorem dX8_told_74 : decode cX8_told 74 = .ok (.iload_n 1, 1) := by decide +kernel
theorem dX8_told_75 : decode cX8_told 75 = .ok (.iload_n 2, 1) := by decide +kernel
theorem dX8_told_76 : decode cX8_told 76 = .ok (.invokevirtual 155, 3) := by decide +kernel
theorem dX8_told_79 : decode cX8_told 79 = .ok (.ireturn, 1) := by decide +kernel
theorem dX8_told_80 : decode cX8_told 80 = .ok (.aload_n 0, 1) := by decide +kernel
theorem dX8_told_81 : decode cX8_told 81 = .ok (.iload_n 1, 1) := by decide +kernel
theorem dX8_told_82 : decode cX8_told 82 = .ok (.iload_n 2, 1) := by decide +kernel
theorem dX8_told_83 : decode cX8_told 83 = .ok (.invokevirtual 159, 3) := by decide +kernel
theorem dX8_told_86 : decode cX8_told 86 = .ok (.ireturn, 1) := by decide +kernel
theorem dX8_told_87 : decode cX8_told 87 = .ok (.bipush (-2), 2) := by decide +kernel
theorem dX8_told_89 : decode cX8_told 89 = .ok (.ireturn, 1) := by decide +kernel
theorem dX8_feed_0 : decode cX8_feed 0 = .ok (.iload_n 1, 1) := by decide +kernel
theorem dX8_feed_1 : decode cX8_feed 1 = .ok (.iconst 1, 1) := by decide +kernel
theorem dX8_feed_2 : decode cX8_feed 2 = .ok (.bipush 8, 2) := by decide +kernel
theorem dX8_feed_4 : decode cX8_feed 4 = .ok (.invokestatic 132, 3) := by decide +kernel
theorem dX8_feed_7 : decode cX8_feed 7 = .ok (.ifCond .ne 6, 3) := by decide +kernel
theorem dX8_feed_10 : decode cX8_feed 10 = .ok (.bipush (-2), 2) := by decide +kernel
theorem dX8_feed_12 : decode cX8_feed 12 = .ok (.ireturn, 1) := by decide +kernel
theorem dX8_feed_13 : decode cX8_feed 13 = .ok (.aload_n 0, 1) := by decide +kernel
theorem dX8_feed_14 : decode cX8_feed 14 = .ok (.getfield 162, 3) := by decide +kernel
theorem dX8_feed_17 : decode cX8_feed 17 = .ok (.iload_n 1, 1) := by decide +kernel
theorem dX8_feed_18 : decode cX8_feed 18 = .ok (.iadd, 1) := by decide +kernel
theorem dX8_feed_19 : decode cX8_feed 19 = .ok (.sipush 160, 3) := by decide +kernel
theorem dX8_feed_22 : decode cX8_feed 22 = .ok (.if_icmp .le 6, 3) := by decide +kernel
theorem dX8_feed_25 : decode cX8_feed 25 = .ok (.bipush (-4), 2) := by decide +kernel
theorem dX8_feed_27 : decode cX8_feed 27 = .ok (.ireturn, 1) := by decide +kernel
theorem dX8_feed_28 : decode cX8_feed 28 = .ok (.iconst 0, 1) := by decide +kernel
theorem dX8_feed_29 : decode cX8_feed 29 = .ok (.istore 4, 2) := by decide +kernel
theorem dX8_feed_31 : decode cX8_feed 31 = .ok (.iload 4, 2) := by decide +kernel
theorem dX8_feed_33 : decode cX8_feed 33 = .ok (.iload_n 1, 1) := by decide +kernel
theorem dX8_feed_34 : decode cX8_feed 34 = .ok (.if_icmp .ge 37, 3) := by decide +kernel
theorem dX8_feed_37 : decode cX8_feed 37 = .ok (.aload_n 0, 1) := by decide +kernel
theorem dX8_feed_38 : decode cX8_feed 38 = .ok (.getfield 53, 3) := by decide +kernel
theorem dX8_feed_41 : decode cX8_feed 41 = .ok (.aload_n 0, 1) := by decide +kernel
theorem dX8_feed_42 : decode cX8_feed 42 = .ok (.getfield 162, 3) := by decide +kernel
theorem dX8_feed_45 : decode cX8_feed 45 = .ok (.lload_n 2, 1) := by decide +kernel
theorem dX8_feed_46 : decode cX8_feed 46 = .ok (.bipush 8, 2) := by decide +kernel
theorem dX8_feed_48 : decode cX8_feed 48 = .ok (.iload 4, 2) := by decide +kernel
theorem dX8_feed_50 : decode cX8_feed 50 = .ok (.imul, 1) := by decide +kernel
theorem dX8_feed_51 : decode cX8_feed 51 = .ok (.lshr, 1) := by decide +kernel
theorem dX8_feed_52 : decode cX8_feed 52 = .ok (.l2i, 1) := by decide +kernel
theorem dX8_feed_53 : decode cX8_feed 53 = .ok (.i2b, 1) := by decide +kernel
theorem dX8_feed_54 : decode cX8_feed 54 = .ok (.bastore, 1) := by decide +kernel
theorem dX8_feed_55 : decode cX8_feed 55 = .ok (.aload_n 0, 1) := by decide +kernel
theorem dX8_feed_56 : decode cX8_feed 56 = .ok (.dup, 1) := by decide +kernel
theorem dX8_feed_57 : decode cX8_feed 57 = .ok (.getfield 162, 3) := by decide +kernel
theorem dX8_feed_60 : decode cX8_feed 60 = .ok (.iconst 1, 1) := by decide +kernel
theorem dX8_feed_61 : decode cX8_feed 61 = .ok (.iadd, 1) := by decide +kernel
theorem dX8_feed_62 : decode cX8_feed 62 = .ok (.putfield 162, 3) := by decide +kernel
theorem dX8_feed_65 : decode cX8_feed 65 = .ok (.iinc 4 1, 3) := by decide +kernel
theorem dX8_feed_68 : decode cX8_feed 68 = .ok (.goto (-37), 3) := by decide +kernel
theorem dX8_feed_71 : decode cX8_feed 71 = .ok (.aload_n 0, 1) := by decide +kernel
theorem dX8_feed_72 : decode cX8_feed 72 = .ok (.getfield 162, 3) := by decide +kernel
theorem dX8_feed_75 : decode cX8_feed 75 = .ok (.ireturn, 1) := by decide +kernel
theorem dX8_isLetter_0 : decode cX8_isLetter 0 = .ok (.iload_n 0, 1) := by decide +kernel
theorem dX8_isLetter_1 : decode cX8_isLetter 1 = .ok (.bipush 97, 2) := by decide +kernel
theorem dX8_isLetter_3 : decode cX8_isLetter 3 = .ok (.bipush 122, 2) := by decide +kernel
theorem dX8_isLetter_5 : decode cX8_isLetter 5 = .ok (.invokestatic 132, 3) := by decide +kernel
theorem dX8_isLetter_8 : decode cX8_isLetter 8 = .ok (.ireturn, 1) := by decide +kernel
theorem dX8_isDigit_0 : decode cX8_isDigit 0 = .ok (.iload_n 0, 1) := by decide +kernel
theorem dX8_isDigit_1 : decode cX8_isDigit 1 = .ok (.bipush 48, 2) := by decide +kernel
theorem dX8_isDigit_3 : decode cX8_isDigit 3 = .ok (.bipush 57, 2) := by decide +kernel
theorem dX8_isDigit_5 : decode cX8_isDigit 5 = .ok (.invokestatic 132, 3) := by decide +kernel
theorem dX8_isDigit_8 : decode cX8_isDigit 8 = .ok (.ireturn, 1) := by decide +kernel
theorem dX8_wordNow_0 : decode cX8_wordNow 0 = .ok (.iconst 0, 1) := by decide +kernel
theorem dX8_wordNow_1 : decode cX8_wordNow 1 = .ok (.istore_n 1, 1) := by decide +kernel
theorem dX8_wordNow_2 : decode cX8_wordNow 2 = .ok (.iconst 0, 1) := by decide +kernel
theorem dX8_wordNow_3 : decode cX8_wordNow 3 = .ok (.istore_n 2, 1) := by decide +kernel
theorem dX8_wordNow_4 : decode cX8_wordNow 4 = .ok (.iload_n 2, 1) := by decide +kernel
theorem dX8_wordNow_5 : decode cX8_wordNow 5 = .ok (.bipush 12, 2) := by decide +kernel
theorem dX8_wordNow_7 : decode cX8_wordNow 7 = .ok (.if_icmp .ge 86, 3) := by decide +kernel
theorem dX8_wordNow_10 : decode cX8_wordNow 10 = .ok (.aload_n 0, 1) := by decide +kernel
theorem dX8_wordNow_11 : decode cX8_wordNow 11 = .ok (.getfield 165, 3) := by decide +kernel
theorem dX8_wordNow_14 : decode cX8_wordNow 14 = .ok (.istore_n 3, 1) := by decide +kernel
theorem dX8_wordNow_15 : decode cX8_wordNow 15 = .ok (.iconst 1, 1) := by decide +kernel
theorem dX8_wordNow_16 : decode cX8_wordNow 16 = .ok (.istore 4, 2) := by decide +kernel
theorem dX8_wordNow_18 : decode cX8_wordNow 18 = .ok (.aload_n 0, 1) := by decide +kernel
theorem dX8_wordNow_19 : decode cX8_wordNow 19 = .ok (.getfield 75, 3) := by decide +kernel
theorem dX8_wordNow_22 : decode cX8_wordNow 22 = .ok (.iload_n 1, 1) := by decide +kernel
theorem dX8_wordNow_23 : decode cX8_wordNow 23 = .ok (.iaload, 1) := by decide +kernel
theorem dX8_wordNow_24 : decode cX8_wordNow 24 = .ok (.bipush 32, 2) := by decide +kernel
theorem dX8_wordNow_26 : decode cX8_wordNow 26 = .ok (.if_icmp .eq 38, 3) := by decide +kernel
theorem dX8_wordNow_29 : decode cX8_wordNow 29 = .ok (.iload_n 3, 1) := by decide +kernel
theorem dX8_wordNow_30 : decode cX8_wordNow 30 = .ok (.aload_n 0, 1) := by decide +kernel
theorem dX8_wordNow_31 : decode cX8_wordNow 31 = .ok (.getfield 168, 3) := by decide +kernel
theorem dX8_wordNow_34 : decode cX8_wordNow 34 = .ok (.if_icmp .ge 18, 3) := by decide +kernel
theorem dX8_wordNow_37 : decode cX8_wordNow 37 = .ok (.aload_n 0, 1) := by decide +kernel
theorem dX8_wordNow_38 : decode cX8_wordNow 38 = .ok (.getfield 53, 3) := by decide +kernel
theorem dX8_wordNow_41 : decode cX8_wordNow 41 = .ok (.iload_n 3, 1) := by decide +kernel
theorem dX8_wordNow_42 : decode cX8_wordNow 42 = .ok (.baload, 1) := by decide +kernel
theorem dX8_wordNow_43 : decode cX8_wordNow 43 = .ok (.aload_n 0, 1) := by decide +kernel
theorem dX8_wordNow_44 : decode cX8_wordNow 44 = .ok (.getfield 75, 3) := by decide +kernel
theorem dX8_wordNow_47 : decode cX8_wordNow 47 = .ok (.iload_n 1, 1) := by decide +kernel
theorem dX8_wordNow_48 : decode cX8_wordNow 48 = .ok (.iaload, 1) := by decide +kernel
theorem dX8_wordNow_49 : decode cX8_wordNow 49 = .ok (.if_icmp .eq 6, 3) := by decide +kernel
theorem dX8_wordNow_52 : decode cX8_wordNow 52 = .ok (.iconst 0, 1) := by decide +kernel
theorem dX8_wordNow_53 : decode cX8_wordNow 53 = .ok (.istore 4, 2) := by decide +kernel
theorem dX8_wordNow_55 : decode cX8_wordNow 55 = .ok (.iinc 3 1, 3) := by decide +kernel
theorem dX8_wordNow_58 : decode cX8_wordNow 58 = .ok (.iinc 1 1, 3) := by decide +kernel
theorem dX8_wordNow_61 : decode cX8_wordNow 61 = .ok (.goto (-43), 3) := by decide +kernel
theorem dX8_wordNow_64 : decode cX8_wordNow 64 = .ok (.iinc 1 1, 3) := by decide +kernel
theorem dX8_wordNow_67 : decode cX8_wordNow 67 = .ok (.iload 4, 2) := by decide +kernel
theorem dX8_wordNow_69 : decode cX8_wordNow 69 = .ok (.ifCond .eq 18, 3) := by decide +kernel
theorem dX8_wordNow_72 : decode cX8_wordNow 72 = .ok (.iload_n 3, 1) := by decide +kernel
theorem dX8_wordNow_73 : decode cX8_wordNow 73 = .ok (.aload_n 0, 1) := by decide +kernel
theorem dX8_wordNow_74 : decode cX8_wordNow 74 = .ok (.getfield 168, 3) := by decide +kernel
theorem dX8_wordNow_77 : decode cX8_wordNow 77 = .ok (.if_icmp .ne 10, 3) := by decide +kernel
theorem dX8_wordNow_80 : decode cX8_wordNow 80 = .ok (.aload_n 0, 1) := by decide +kernel
theorem dX8_wordNow_81 : decode cX8_wordNow 81 = .ok (.getfield 78, 3) := by decide +kernel
theorem dX8_wordNow_84 : decode cX8_wordNow 84 = .ok (.iload_n 2, 1) := by decide +kernel
theorem dX8_wordNow_85 : decode cX8_wordNow 85 = .ok (.iaload, 1) := by decide +kernel
theorem dX8_wordNow_86 : decode cX8_wordNow 86 = .ok (.ireturn, 1) := by decide +kernel
theorem dX8_wordNow_87 : decode cX8_wordNow 87 = .ok (.iinc 2 1, 3) := by decide +kernel
theorem dX8_wordNow_90 : decode cX8_wordNow 90 = .ok (.goto (-86), 3) := by decide +kernel
theorem dX8_wordNow_93 : decode cX8_wordNow 93 = .ok (.iconst (-1), 1) := by decide +kernel
theorem dX8_wordNow_94 : decode cX8_wordNow 94 = .ok (.ireturn, 1) := by decide +kernel
theorem dX8_next_0 : decode cX8_next 0 = .ok (.aload_n 0, 1) := by decide +kernel
theorem dX8_next_1 : decode cX8_next 1 = .ok (.aload_n 0, 1) := by decide +kernel
theorem dX8_next_2 : decode cX8_next 2 = .ok (.getfield 168, 3) := by decide +kernel
theorem dX8_next_5 : decode cX8_next 5 = .ok (.putfield 165, 3) := by decide +kernel
theorem dX8_next_8 : decode cX8_next 8 = .ok (.aload_n 0, 1) := by decide +kernel
theorem dX8_next_9 : decode cX8_next 9 = .ok (.getfield 165, 3) := by decide +kernel
theorem dX8_next_12 : decode cX8_next 12 = .ok (.aload_n 0, 1) := by decide +kernel
theorem dX8_next_13 : decode cX8_next 13 = .ok (.getfield 162, 3) := by decide +kernel
theorem dX8_next_16 : decode cX8_next 16 = .ok (.if_icmp .ge 44, 3) := by decide +kernel
theorem dX8_next_19 : decode cX8_next 19 = .ok (.aload_n 0, 1) := by decide +kernel
theorem dX8_next_20 : decode cX8_next 20 = .ok (.getfield 53, 3) := by decide +kernel
theorem dX8_next_23 : decode cX8_next 23 = .ok (.aload_n 0, 1) := by decide +kernel
theorem dX8_next_24 : decode cX8_next 24 = .ok (.getfield 165, 3) := by decide +kernel
theorem dX8_next_27 : decode cX8_next 27 = .ok (.baload, 1) := by decide +kernel
theorem dX8_next_28 : decode cX8_next 28 = .ok (.bipush 32, 2) := by decide +kernel
theorem dX8_next_30 : decode cX8_next 30 = .ok (.if_icmp .eq 17, 3) := by decide +kernel
theorem dX8_next_33 : decode cX8_next 33 = .ok (.aload_n 0, 1) := by decide +kernel
theorem dX8_next_34 : decode cX8_next 34 = .ok (.getfield 53, 3) := by decide +kernel
theorem dX8_next_37 : decode cX8_next 37 = .ok (.aload_n 0, 1) := by decide +kernel
theorem dX8_next_38 : decode cX8_next 38 = .ok (.getfield 165, 3) := by decide +kernel
theorem dX8_next_41 : decode cX8_next 41 = .ok (.baload, 1) := by decide +kernel
theorem dX8_next_42 : decode cX8_next 42 = .ok (.bipush 10, 2) := by decide +kernel
theorem dX8_next_44 : decode cX8_next 44 = .ok (.if_icmp .ne 16, 3) := by decide +kernel
theorem dX8_next_47 : decode cX8_next 47 = .ok (.aload_n 0, 1) := by decide +kernel
theorem dX8_next_48 : decode cX8_next 48 = .ok (.dup, 1) := by decide +kernel
theorem dX8_next_49 : decode cX8_next 49 = .ok (.getfield 165, 3) := by decide +kernel
theorem dX8_next_52 : decode cX8_next 52 = .ok (.iconst 1, 1) := by decide +kernel
theorem dX8_next_53 : decode cX8_next 53 = .ok (.iadd, 1) := by decide +kernel
theorem dX8_next_54 : decode cX8_next 54 = .ok (.putfield 165, 3) := by decide +kernel
theorem dX8_next_57 : decode cX8_next 57 = .ok (.goto (-49), 3) := by decide +kernel
theorem dX8_next_60 : decode cX8_next 60 = .ok (.aload_n 0, 1) := by decide +kernel
theorem dX8_next_61 : decode cX8_next 61 = .ok (.aload_n 0, 1) := by decide +kernel
theorem dX8_next_62 : decode cX8_next 62 = .ok (.getfield 165, 3) := by decide +kernel
theorem dX8_next_65 : decode cX8_next 65 = .ok (.putfield 168, 3) := by decide +kernel
theorem dX8_next_68 : decode cX8_next 68 = .ok (.aload_n 0, 1) := by decide +kernel
theorem dX8_next_69 : decode cX8_next 69 = .ok (.getfield 165, 3) := by decide +kernel
theorem dX8_next_72 : decode cX8_next 72 = .ok (.aload_n 0, 1) := by decide +kernel
theorem dX8_next_73 : decode cX8_next 73 = .ok (.getfield 162, 3) := by decide +kernel
theorem dX8_next_76 : decode cX8_next 76 = .ok (.if_icmp .lt 17, 3) := by decide +kernel
theorem dX8_next_79 : decode cX8_next 79 = .ok (.aload_n 0, 1) := by decide +kernel
theorem dX8_next_80 : decode cX8_next 80 = .ok (.aload_n 0, 1) := by decide +kernel
theorem dX8_next_81 : decode cX8_next 81 = .ok (.getfield 162, 3) := by decide +kernel
theorem dX8_next_84 : decode cX8_next 84 = .ok (.putfield 165, 3) := by decide +kernel
theorem dX8_next_87 : decode cX8_next 87 = .ok (.aload_n 0, 1) := by decide +kernel
theorem dX8_next_88 : decode cX8_next 88 = .ok (.iconst 4, 1) := by decide +kernel
theorem dX8_next_89 : decode cX8_next 89 = .ok (.putfield 171, 3) := by decide +kernel
theorem dX8_next_92 : decode cX8_next 92 = .ok (.return_, 1) := by decide +kernel
theorem dX8_next_93 : decode cX8_next 93 = .ok (.aload_n 0, 1) := by decide +kernel
theorem dX8_next_94 : decode cX8_next 94 = .ok (.getfield 53, 3) := by decide +kernel
theorem dX8_next_97 : decode cX8_next 97 = .ok (.aload_n 0, 1) := by decide +kernel
theorem dX8_next_98 : decode cX8_next 98 = .ok (.getfield 165, 3) := by decide +kernel
theorem dX8_next_101 : decode cX8_next 101 = .ok (.baload, 1) := by decide +kernel
theorem dX8_next_102 : decode cX8_next 102 = .ok (.istore_n 1, 1) := by decide +kernel
theorem dX8_next_103 : decode cX8_next 103 = .ok (.iload_n 1, 1) := by decide +kernel
theorem dX8_next_104 : decode cX8_next 104 = .ok (.invokestatic 174, 3) := by decide +kernel
theorem dX8_next_107 : decode cX8_next 107 = .ok (.ifCond .eq 69, 3) := by decide +kernel
theorem dX8_next_110 : decode cX8_next 110 = .ok (.aload_n 0, 1) := by decide +kernel
theorem dX8_next_111 : decode cX8_next 111 = .ok (.getfield 168, 3) := by decide +kernel
theorem dX8_next_114 : decode cX8_next 114 = .ok (.aload_n 0, 1) := by decide +kernel
theorem dX8_next_115 : decode cX8_next 115 = .ok (.getfield 162, 3) := by decide +kernel
theorem dX8_next_118 : decode cX8_next 118 = .ok (.if_icmp .ge 31, 3) := by decide +kernel
theorem dX8_next_121 : decode cX8_next 121 = .ok (.aload_n 0, 1) := by decide +kernel
theorem dX8_next_122 : decode cX8_next 122 = .ok (.getfield 53, 3) := by decide +kernel
theorem dX8_next_125 : decode cX8_next 125 = .ok (.aload_n 0, 1) := by decide +kernel
theorem dX8_next_126 : decode cX8_next 126 = .ok (.getfield 168, 3) := by decide +kernel
theorem dX8_next_129 : decode cX8_next 129 = .ok (.baload, 1) := by decide +kernel
theorem dX8_next_130 : decode cX8_next 130 = .ok (.invokestatic 174, 3) := by decide +kernel
theorem dX8_next_133 : decode cX8_next 133 = .ok (.ifCond .eq 16, 3) := by decide +kernel
theorem dX8_next_136 : decode cX8_next 136 = .ok (.aload_n 0, 1) := by decide +kernel
theorem dX8_next_137 : decode cX8_next 137 = .ok (.dup, 1) := by decide +kernel
theorem dX8_next_138 : decode cX8_next 138 = .ok (.getfield 168, 3) := by decide +kernel
theorem dX8_next_141 : decode cX8_next 141 = .ok (.iconst 1, 1) := by decide +kernel
theorem dX8_next_142 : decode cX8_next 142 = .ok (.iadd, 1) := by decide +kernel
theorem dX8_next_143 : decode cX8_next 143 = .ok (.putfield 168, 3) := by decide +kernel
theorem dX8_next_146 : decode cX8_next 146 = .ok (.goto (-36), 3) := by decide +kernel
theorem dX8_next_149 : decode cX8_next 149 = .ok (.aload_n 0, 1) := by decide +kernel
theorem dX8_next_150 : decode cX8_next 150 = .ok (.aload_n 0, 1) := by decide +kernel
theorem dX8_next_151 : decode cX8_next 151 = .ok (.invokevirtual 177, 3) := by decide +kernel
theorem dX8_next_154 : decode cX8_next 154 = .ok (.putfield 181, 3) := by decide +kernel
theorem dX8_next_157 : decode cX8_next 157 = .ok (.aload_n 0, 1) := by decide +kernel
theorem dX8_next_158 : decode cX8_next 158 = .ok (.aload_n 0, 1) := by decide +kernel
theorem dX8_next_159 : decode cX8_next 159 = .ok (.getfield 181, 3) := by decide +kernel
theorem dX8_next_162 : decode cX8_next 162 = .ok (.ifCond .ge 7, 3) := by decide +kernel
theorem dX8_next_165 : decode cX8_next 165 = .ok (.iconst 5, 1) := by decide +kernel
theorem dX8_next_166 : decode cX8_next 166 = .ok (.goto 4, 3) := by decide +kernel
theorem dX8_next_169 : decode cX8_next 169 = .ok (.iconst 1, 1) := by decide +kernel
theorem dX8_next_170 : decode cX8_next 170 = .ok (.putfield 171, 3) := by decide +kernel
theorem dX8_next_173 : decode cX8_next 173 = .ok (.goto 188, 3) := by decide +kernel
theorem dX8_next_176 : decode cX8_next 176 = .ok (.iload_n 1, 1) := by decide +kernel
theorem dX8_next_177 : decode cX8_next 177 = .ok (.invokestatic 184, 3) := by decide +kernel
theorem dX8_next_180 : decode cX8_next 180 = .ok (.ifCond .eq 109, 3) := by decide +kernel
theorem dX8_next_183 : decode cX8_next 183 = .ok (.aload_n 0, 1) := by decide +kernel
theorem dX8_next_184 : decode cX8_next 184 = .ok (.iconst 0, 1) := by decide +kernel
theorem dX8_next_185 : decode cX8_next 185 = .ok (.putfield 181, 3) := by decide +kernel
theorem dX8_next_188 : decode cX8_next 188 = .ok (.aload_n 0, 1) := by decide +kernel
theorem dX8_next_189 : decode cX8_next 189 = .ok (.getfield 168, 3) := by decide +kernel
theorem dX8_next_192 : decode cX8_next 192 = .ok (.aload_n 0, 1) := by decide +kernel
theorem dX8_next_193 : decode cX8_next 193 = .ok (.getfield 162, 3) := by decide +kernel
theorem dX8_next_196 : decode cX8_next 196 = .ok (.if_icmp .ge 68, 3) := by decide +kernel
theorem dX8_next_199 : decode cX8_next 199 = .ok (.aload_n 0, 1) := by decide +kernel
theorem dX8_next_200 : decode cX8_next 200 = .ok (.getfield 53, 3) := by decide +kernel
theorem dX8_next_203 : decode cX8_next 203 = .ok (.aload_n 0, 1) := by decide +kernel
theorem dX8_next_204 : decode cX8_next 204 = .ok (.getfield 168, 3) := by decide +kernel
theorem dX8_next_207 : decode cX8_next 207 = .ok (.baload, 1) := by decide +kernel
theorem dX8_next_208 : decode cX8_next 208 = .ok (.invokestatic 184, 3) := by decide +kernel
theorem dX8_next_211 : decode cX8_next 211 = .ok (.ifCond .eq 53, 3) := by decide +kernel
theorem dX8_next_214 : decode cX8_next 214 = .ok (.aload_n 0, 1) := by decide +kernel
theorem dX8_next_215 : decode cX8_next 215 = .ok (.getfield 168, 3) := by decide +kernel
theorem dX8_next_218 : decode cX8_next 218 = .ok (.aload_n 0, 1) := by decide +kernel
theorem dX8_next_219 : decode cX8_next 219 = .ok (.getfield 165, 3) := by decide +kernel
theorem dX8_next_222 : decode cX8_next 222 = .ok (.isub, 1) := by decide +kernel
theorem dX8_next_223 : decode cX8_next 223 = .ok (.iconst 4, 1) := by decide +kernel
theorem dX8_next_224 : decode cX8_next 224 = .ok (.if_icmp .ge 27, 3) := by decide +kernel
theorem dX8_next_227 : decode cX8_next 227 = .ok (.aload_n 0, 1) := by decide +kernel
theorem dX8_next_228 : decode cX8_next 228 = .ok (.bipush 10, 2) := by decide +kernel
theorem dX8_next_230 : decode cX8_next 230 = .ok (.aload_n 0, 1) := by decide +kernel
theorem dX8_next_231 : decode cX8_next 231 = .ok (.getfield 181, 3) := by decide +kernel
theorem dX8_next_234 : decode cX8_next 234 = .ok (.imul, 1) := by decide +kernel
theorem dX8_next_235 : decode cX8_next 235 = .ok (.aload_n 0, 1) := by decide +kernel
theorem dX8_next_236 : decode cX8_next 236 = .ok (.getfield 53, 3) := by decide +kernel
theorem dX8_next_239 : decode cX8_next 239 = .ok (.aload_n 0, 1) := by decide +kernel
theorem dX8_next_240 : decode cX8_next 240 = .ok (.getfield 168, 3) := by decide +kernel
theorem dX8_next_243 : decode cX8_next 243 = .ok (.baload, 1) := by decide +kernel
theorem dX8_next_244 : decode cX8_next 244 = .ok (.iadd, 1) := by decide +kernel
theorem dX8_next_245 : decode cX8_next 245 = .ok (.bipush 48, 2) := by decide +kernel
theorem dX8_next_247 : decode cX8_next 247 = .ok (.isub, 1) := by decide +kernel
theorem dX8_next_248 : decode cX8_next 248 = .ok (.putfield 181, 3) := by decide +kernel
theorem dX8_next_251 : decode cX8_next 251 = .ok (.aload_n 0, 1) := by decide +kernel
theorem dX8_next_252 : decode cX8_next 252 = .ok (.dup, 1) := by decide +kernel
theorem dX8_next_253 : decode cX8_next 253 = .ok (.getfield 168, 3) := by decide +kernel
theorem dX8_next_256 : decode cX8_next 256 = .ok (.iconst 1, 1) := by decide +kernel
theorem dX8_next_257 : decode cX8_next 257 = .ok (.iadd, 1) := by decide +kernel
theorem dX8_next_258 : decode cX8_next 258 = .ok (.putfield 168, 3) := by decide +kernel
theorem dX8_next_261 : decode cX8_next 261 = .ok (.goto (-73), 3) := by decide +kernel
theorem dX8_next_264 : decode cX8_next 264 = .ok (.aload_n 0, 1) := by decide +kernel
theorem dX8_next_265 : decode cX8_next 265 = .ok (.aload_n 0, 1) := by decide +kernel
theorem dX8_next_266 : decode cX8_next 266 = .ok (.getfield 168, 3) := by decide +kernel
theorem dX8_next_269 : decode cX8_next 269 = .ok (.aload_n 0, 1) := by decide +kernel
theorem dX8_next_270 : decode cX8_next 270 = .ok (.getfield 165, 3) := by decide +kernel
theorem dX8_next_273 : decode cX8_next 273 = .ok (.isub, 1) := by decide +kernel
theorem dX8_next_274 : decode cX8_next 274 = .ok (.iconst 4, 1) := by decide +kernel
theorem dX8_next_275 : decode cX8_next 275 = .ok (.if_icmp .le 7, 3) := by decide +kernel
theorem dX8_next_278 : decode cX8_next 278 = .ok (.iconst 5, 1) := by decide +kernel
theorem dX8_next_279 : decode cX8_next 279 = .ok (.goto 4, 3) := by decide +kernel
theorem dX8_next_282 : decode cX8_next 282 = .ok (.iconst 2, 1) := by decide +kernel
theorem dX8_next_283 : decode cX8_next 283 = .ok (.putfield 171, 3) := by decide +kernel
theorem dX8_next_286 : decode cX8_next 286 = .ok (.goto 75, 3) := by decide +kernel
theorem dX8_next_289 : decode cX8_next 289 = .ok (.aload_n 0, 1) := by decide +kernel
theorem dX8_next_290 : decode cX8_next 290 = .ok (.dup, 1) := by decide +kernel
theorem dX8_next_291 : decode cX8_next 291 = .ok (.getfield 168, 3) := by decide +kernel
theorem dX8_next_294 : decode cX8_next 294 = .ok (.iconst 1, 1) := by decide +kernel
theorem dX8_next_295 : decode cX8_next 295 = .ok (.iadd, 1) := by decide +kernel
theorem dX8_next_296 : decode cX8_next 296 = .ok (.putfield 168, 3) := by decide +kernel
theorem dX8_next_299 : decode cX8_next 299 = .ok (.aload_n 0, 1) := by decide +kernel
theorem dX8_next_300 : decode cX8_next 300 = .ok (.iload_n 1, 1) := by decide +kernel
theorem dX8_next_301 : decode cX8_next 301 = .ok (.putfield 181, 3) := by decide +kernel
theorem dX8_next_304 : decode cX8_next 304 = .ok (.aload_n 0, 1) := by decide +kernel
theorem dX8_next_305 : decode cX8_next 305 = .ok (.iload_n 1, 1) := by decide +kernel
theorem dX8_next_306 : decode cX8_next 306 = .ok (.bipush 40, 2) := by decide +kernel
theorem dX8_next_308 : decode cX8_next 308 = .ok (.if_icmp .eq 45, 3) := by decide +kernel
theorem dX8_next_311 : decode cX8_next 311 = .ok (.iload_n 1, 1) := by decide +kernel
theorem dX8_next_312 : decode cX8_next 312 = .ok (.bipush 41, 2) := by decide +kernel
theorem dX8_next_314 : decode cX8_next 314 = .ok (.if_icmp .eq 39, 3) := by decide +kernel
theorem dX8_next_317 : decode cX8_next 317 = .ok (.iload_n 1, 1) := by decide +kernel
theorem dX8_next_318 : decode cX8_next 318 = .ok (.bipush 59, 2) := by decide +kernel
theorem dX8_next_320 : decode cX8_next 320 = .ok (.if_icmp .eq 33, 3) := by decide +kernel
theorem dX8_next_323 : decode cX8_next 323 = .ok (.iload_n 1, 1) := by decide +kernel
theorem dX8_next_324 : decode cX8_next 324 = .ok (.bipush 43, 2) := by decide +kernel
theorem dX8_next_326 : decode cX8_next 326 = .ok (.if_icmp .eq 27, 3) := by decide +kernel
theorem dX8_next_329 : decode cX8_next 329 = .ok (.iload_n 1, 1) := by decide +kernel
theorem dX8_next_330 : decode cX8_next 330 = .ok (.bipush 45, 2) := by decide +kernel
theorem dX8_next_332 : decode cX8_next 332 = .ok (.if_icmp .eq 21, 3) := by decide +kernel
theorem dX8_next_335 : decode cX8_next 335 = .ok (.iload_n 1, 1) := by decide +kernel
theorem dX8_next_336 : decode cX8_next 336 = .ok (.bipush 42, 2) := by decide +kernel
theorem dX8_next_338 : decode cX8_next 338 = .ok (.if_icmp .eq 15, 3) := by decide +kernel
theorem dX8_next_341 : decode cX8_next 341 = .ok (.iload_n 1, 1) := by decide +kernel
theorem dX8_next_342 : decode cX8_next 342 = .ok (.bipush 60, 2) := by decide +kernel
theorem dX8_next_344 : decode cX8_next 344 = .ok (.if_icmp .eq 9, 3) := by decide +kernel
theorem dX8_next_347 : decode cX8_next 347 = .ok (.iload_n 1, 1) := by decide +kernel
theorem dX8_next_348 : decode cX8_next 348 = .ok (.bipush 61, 2) := by decide +kernel
theorem dX8_next_350 : decode cX8_next 350 = .ok (.if_icmp .ne 7, 3) := by decide +kernel
theorem dX8_next_353 : decode cX8_next 353 = .ok (.iconst 3, 1) := by decide +kernel
theorem dX8_next_354 : decode cX8_next 354 = .ok (.goto 4, 3) := by decide +kernel
theorem dX8_next_357 : decode cX8_next 357 = .ok (.iconst 5, 1) := by decide +kernel
theorem dX8_next_358 : decode cX8_next 358 = .ok (.putfield 171, 3) := by decide +kernel
theorem dX8_next_361 : decode cX8_next 361 = .ok (.return_, 1) := by decide +kernel
theorem dX8_faulty_0 : decode cX8_faulty 0 = .ok (.aload_n 0, 1) := by decide +kernel
theorem dX8_faulty_1 : decode cX8_faulty 1 = .ok (.getfield 187, 3) := by decide +kernel
theorem dX8_faulty_4 : decode cX8_faulty 4 = .ok (.ifCond .ge 11, 3) := by decide +kernel
theorem dX8_faulty_7 : decode cX8_faulty 7 = .ok (.aload_n 0, 1) := by decide +kernel
theorem dX8_faulty_8 : decode cX8_faulty 8 = .ok (.aload_n 0, 1) := by decide +kernel
theorem dX8_faulty_9 : decode cX8_faulty 9 = .ok (.getfield 165, 3) := by decide +kernel
theorem dX8_faulty_12 : decode cX8_faulty 12 = .ok (.putfield 187, 3) := by decide +kernel
theorem dX8_faulty_15 : decode cX8_faulty 15 = .ok (.return_, 1) := by decide +kernel
theorem dX8_isSign_0 : decode cX8_isSign 0 = .ok (.aload_n 0, 1) := by decide +kernel
theorem dX8_isSign_1 : decode cX8_isSign 1 = .ok (.getfield 187, 3) := by decide +kernel
theorem dX8_isSign_4 : decode cX8_isSign 4 = .ok (.ifCond .ge 23, 3) := by decide +kernel
theorem dX8_isSign_7 : decode cX8_isSign 7 = .ok (.aload_n 0, 1) := by decide +kernel
theorem dX8_isSign_8 : decode cX8_isSign 8 = .ok (.getfield 171, 3) := by decide +kernel
theorem dX8_isSign_11 : decode cX8_isSign 11 = .ok (.iconst 3, 1) := by decide +kernel
theorem dX8_isSign_12 : decode cX8_isSign 12 = .ok (.if_icmp .ne 15, 3) := by decide +kernel
theorem dX8_isSign_15 : decode cX8_isSign 15 = .ok (.aload_n 0, 1) := by decide +kernel
theorem dX8_isSign_16 : decode cX8_isSign 16 = .ok (.getfield 181, 3) := by decide +kernel
theorem dX8_isSign_19 : decode cX8_isSign 19 = .ok (.iload_n 1, 1) := by decide +kernel
theorem dX8_isSign_20 : decode cX8_isSign 20 = .ok (.if_icmp .ne 7, 3) := by decide +kernel
theorem dX8_isSign_23 : decode cX8_isSign 23 = .ok (.iconst 1, 1) := by decide +kernel
theorem dX8_isSign_24 : decode cX8_isSign 24 = .ok (.goto 4, 3) := by decide +kernel
theorem dX8_isSign_27 : decode cX8_isSign 27 = .ok (.iconst 0, 1) := by decide +kernel
theorem dX8_isSign_28 : decode cX8_isSign 28 = .ok (.ireturn, 1) := by decide +kernel
theorem dX8_isKey_0 : decode cX8_isKey 0 = .ok (.aload_n 0, 1) := by decide +kernel
theorem dX8_isKey_1 : decode cX8_isKey 1 = .ok (.getfield 187, 3) := by decide +kernel
theorem dX8_isKey_4 : decode cX8_isKey 4 = .ok (.ifCond .ge 23, 3) := by decide +kernel
theorem dX8_isKey_7 : decode cX8_isKey 7 = .ok (.aload_n 0, 1) := by decide +kernel
theorem dX8_isKey_8 : decode cX8_isKey 8 = .ok (.getfield 171, 3) := by decide +kernel
theorem dX8_isKey_11 : decode cX8_isKey 11 = .ok (.iconst 1, 1) := by decide +kernel
theorem dX8_isKey_12 : decode cX8_isKey 12 = .ok (.if_icmp .ne 15, 3) := by decide +kernel
theorem dX8_isKey_15 : decode cX8_isKey 15 = .ok (.aload_n 0, 1) := by decide +kernel
theorem dX8_isKey_16 : decode cX8_isKey 16 = .ok (.getfield 181, 3) := by decide +kernel
theorem dX8_isKey_19 : decode cX8_isKey 19 = .ok (.iload_n 1, 1) := by decide +kernel
theorem dX8_isKey_20 : decode cX8_isKey 20 = .ok (.if_icmp .ne 7, 3) := by decide +kernel
theorem dX8_isKey_23 : decode cX8_isKey 23 = .ok (.iconst 1, 1) := by decide +kernel
theorem dX8_isKey_24 : decode cX8_isKey 24 = .ok (.goto 4, 3) := by decide +kernel
theorem dX8_isKey_27 : decode cX8_isKey 27 = .ok (.iconst 0, 1) := by decide +kernel
theorem dX8_isKey_28 : decode cX8_isKey 28 = .ok (.ireturn, 1) := by decide +kernel
theorem dX8_addStep_0 : decode cX8_addStep 0 = .ok (.aload_n 0, 1) := by decide +kernel
theorem dX8_addStep_1 : decode cX8_addStep 1 = .ok (.getfield 60, 3) := by decide +kernel
theorem dX8_addStep_4 : decode cX8_addStep 4 = .ok (.sipush 1020, 3) := by decide +kernel
theorem dX8_addStep_7 : decode cX8_addStep 7 = .ok (.aload_n 0, 1) := by decide +kernel
theorem dX8_addStep_8 : decode cX8_addStep 8 = .ok (.getfield 190, 3) := by decide +kernel
theorem dX8_addStep_11 : decode cX8_addStep 11 = .ok (.iadd, 1) := by decide +kernel
theorem dX8_addStep_12 : decode cX8_addStep 12 = .ok (.iload_n 1, 1) := by decide +kernel
theorem dX8_addStep_13 : decode cX8_addStep 13 = .ok (.iastore, 1) := by decide +kernel
theorem dX8_addStep_14 : decode cX8_addStep 14 = .ok (.aload_n 0, 1) := by decide +kernel
theorem dX8_addStep_15 : decode cX8_addStep 15 = .ok (.getfield 63, 3) := by decide +kernel
theorem dX8_addStep_18 : decode cX8_addStep 18 = .ok (.sipush 1020, 3) := by decide +kernel
theorem dX8_addStep_21 : decode cX8_addStep 21 = .ok (.aload_n 0, 1) := by decide +kernel
theorem dX8_addStep_22 : decode cX8_addStep 22 = .ok (.getfield 190, 3) := by decide +kernel
theorem dX8_addStep_25 : decode cX8_addStep 25 = .ok (.iadd, 1) := by decide +kernel
theorem dX8_addStep_26 : decode cX8_addStep 26 = .ok (.iload_n 2, 1) := by decide +kernel
theorem dX8_addStep_27 : decode cX8_addStep 27 = .ok (.iastore, 1) := by decide +kernel
theorem dX8_addStep_28 : decode cX8_addStep 28 = .ok (.aload_n 0, 1) := by decide +kernel
theorem dX8_addStep_29 : decode cX8_addStep 29 = .ok (.dup, 1) := by decide +kernel
theorem dX8_addStep_30 : decode cX8_addStep 30 = .ok (.getfield 190, 3) := by decide +kernel
theorem dX8_addStep_33 : decode cX8_addStep 33 = .ok (.iconst 1, 1) := by decide +kernel
theorem dX8_addStep_34 : decode cX8_addStep 34 = .ok (.iadd, 1) := by decide +kernel
theorem dX8_addStep_35 : decode cX8_addStep 35 = .ok (.putfield 190, 3) := by decide +kernel
theorem dX8_addStep_38 : decode cX8_addStep 38 = .ok (.return_, 1) := by decide +kernel
theorem dX8_opens_0 : decode cX8_opens 0 = .ok (.aload_n 0, 1) := by decide +kernel
theorem dX8_opens_1 : decode cX8_opens 1 = .ok (.getfield 193, 3) := by decide +kernel
theorem dX8_opens_4 : decode cX8_opens 4 = .ok (.iconst 5, 1) := by decide +kernel
theorem dX8_opens_5 : decode cX8_opens 5 = .ok (.if_icmp .ne 9, 3) := by decide +kernel
theorem dX8_opens_8 : decode cX8_opens 8 = .ok (.aload_n 0, 1) := by decide +kernel
theorem dX8_opens_9 : decode cX8_opens 9 = .ok (.invokevirtual 196, 3) := by decide +kernel
theorem dX8_opens_12 : decode cX8_opens 12 = .ok (.iconst 0, 1) := by decide +kernel
theorem dX8_opens_13 : decode cX8_opens 13 = .ok (.ireturn, 1) := by decide +kernel
theorem dX8_opens_14 : decode cX8_opens 14 = .ok (.aload_n 0, 1) := by decide +kernel
theorem dX8_opens_15 : decode cX8_opens 15 = .ok (.dup, 1) := by decide +kernel
theorem dX8_opens_16 : decode cX8_opens 16 = .ok (.getfield 193, 3) := by decide +kernel
theorem dX8_opens_19 : decode cX8_opens 19 = .ok (.iconst 1, 1) := by decide +kernel
theorem dX8_opens_20 : decode cX8_opens 20 = .ok (.iadd, 1) := by decide +kernel
theorem dX8_opens_21 : decode cX8_opens 21 = .ok (.putfield 193, 3) := by decide +kernel
theorem dX8_opens_24 : decode cX8_opens 24 = .ok (.aload_n 0, 1) := by decide +kernel
theorem dX8_opens_25 : decode cX8_opens 25 = .ok (.invokevirtual 199, 3) := by decide +kernel
theorem dX8_opens_28 : decode cX8_opens 28 = .ok (.iconst 1, 1) := by decide +kernel
theorem dX8_opens_29 : decode cX8_opens 29 = .ok (.ireturn, 1) := by decide +kernel
theorem dX8_either_0 : decode cX8_either 0 = .ok (.aload_n 0, 1) := by decide +kernel
theorem dX8_either_1 : decode cX8_either 1 = .ok (.invokevirtual 202, 3) := by decide +kernel
theorem dX8_either_4 : decode cX8_either 4 = .ok (.aload_n 0, 1) := by decide +kernel
theorem dX8_either_5 : decode cX8_either 5 = .ok (.bipush 13, 2) := by decide +kernel
theorem dX8_either_7 : decode cX8_either 7 = .ok (.invokevirtual 205, 3) := by decide +kernel
theorem dX8_either_10 : decode cX8_either 10 = .ok (.ifCond .eq 20, 3) := by decide +kernel
theorem dX8_either_13 : decode cX8_either 13 = .ok (.aload_n 0, 1) := by decide +kernel
theorem dX8_either_14 : decode cX8_either 14 = .ok (.invokevirtual 199, 3) := by decide +kernel
theorem dX8_either_17 : decode cX8_either 17 = .ok (.aload_n 0, 1) := by decide +kernel
theorem dX8_either_18 : decode cX8_either 18 = .ok (.invokevirtual 202, 3) := by decide +kernel
theorem dX8_either_21 : decode cX8_either 21 = .ok (.aload_n 0, 1) := by decide +kernel
theorem dX8_either_22 : decode cX8_either 22 = .ok (.iconst 5, 1) := by decide +kernel
theorem dX8_either_23 : decode cX8_either 23 = .ok (.iconst 0, 1) := by decide +kernel
theorem dX8_either_24 : decode cX8_either 24 = .ok (.invokevirtual 208, 3) := by decide +kernel
theorem dX8_either_27 : decode cX8_either 27 = .ok (.goto (-23), 3) := by decide +kernel
theorem dX8_either_30 : decode cX8_either 30 = .ok (.return_, 1) := by decide +kernel
theorem dX8_all_0 : decode cX8_all 0 = .ok (.aload_n 0, 1) := by decide +kernel
theorem dX8_all_1 : decode cX8_all 1 = .ok (.invokevirtual 212, 3) := by decide +kernel
theorem dX8_all_4 : decode cX8_all 4 = .ok (.aload_n 0, 1) := by decide +kernel
theorem dX8_all_5 : decode cX8_all 5 = .ok (.bipush 14, 2) := by decide +kernel
theorem dX8_all_7 : decode cX8_all 7 = .ok (.invokevirtual 205, 3) := by decide +kernel
theorem dX8_all_10 : decode cX8_all 10 = .ok (.ifCond .eq 21, 3) := by decide +kernel
theorem dX8_all_13 : decode cX8_all 13 = .ok (.aload_n 0, 1) := by decide +kernel
theorem dX8_all_14 : decode cX8_all 14 = .ok (.invokevirtual 199, 3) := by decide +kernel
theorem dX8_all_17 : decode cX8_all 17 = .ok (.aload_n 0, 1) := by decide +kernel
theorem dX8_all_18 : decode cX8_all 18 = .ok (.invokevirtual 212, 3) := by decide +kernel
theorem dX8_all_21 : decode cX8_all 21 = .ok (.aload_n 0, 1) := by decide +kernel
theorem dX8_all_22 : decode cX8_all 22 = .ok (.bipush 6, 2) := by decide +kernel
theorem dX8_all_24 : decode cX8_all 24 = .ok (.iconst 0, 1) := by decide +kernel
theorem dX8_all_25 : decode cX8_all 25 = .ok (.invokevirtual 208, 3) := by decide +kernel
theorem dX8_all_28 : decode cX8_all 28 = .ok (.goto (-24), 3) := by decide +kernel
theorem dX8_all_31 : decode cX8_all 31 = .ok (.return_, 1) := by decide +kernel
theorem dX8_denied_0 : decode cX8_denied 0 = .ok (.aload_n 0, 1) := by decide +kernel
theorem dX8_denied_1 : decode cX8_denied 1 = .ok (.bipush 15, 2) := by decide +kernel
theorem dX8_denied_3 : decode cX8_denied 3 = .ok (.invokevirtual 205, 3) := by decide +kernel
theorem dX8_denied_6 : decode cX8_denied 6 = .ok (.ifCond .eq 32, 3) := by decide +kernel
theorem dX8_denied_9 : decode cX8_denied 9 = .ok (.aload_n 0, 1) := by decide +kernel
theorem dX8_denied_10 : decode cX8_denied 10 = .ok (.invokevirtual 215, 3) := by decide +kernel
theorem dX8_denied_13 : decode cX8_denied 13 = .ok (.ifCond .ne 4, 3) := by decide +kernel
theorem dX8_denied_16 : decode cX8_denied 16 = .ok (.return_, 1) := by decide +kernel
theorem dX8_denied_17 : decode cX8_denied 17 = .ok (.aload_n 0, 1) := by decide +kernel
theorem dX8_denied_18 : decode cX8_denied 18 = .ok (.invokevirtual 212, 3) := by decide +kernel
theorem dX8_denied_21 : decode cX8_denied 21 = .ok (.aload_n 0, 1) := by decide +kernel
theorem dX8_denied_22 : decode cX8_denied 22 = .ok (.dup, 1) := by decide +kernel
theorem dX8_denied_23 : decode cX8_denied 23 = .ok (.getfield 193, 3) := by decide +kernel
theorem dX8_denied_26 : decode cX8_denied 26 = .ok (.iconst 1, 1) := by decide +kernel
theorem dX8_denied_27 : decode cX8_denied 27 = .ok (.isub, 1) := by decide +kernel
theorem dX8_denied_28 : decode cX8_denied 28 = .ok (.putfield 193, 3) := by decide +kernel
theorem dX8_denied_31 : decode cX8_denied 31 = .ok (.aload_n 0, 1) := by decide +kernel
theorem dX8_denied_32 : decode cX8_denied 32 = .ok (.iconst 3, 1) := by decide +kernel
theorem dX8_denied_33 : decode cX8_denied 33 = .ok (.iconst 0, 1) := by decide +kernel
theorem dX8_denied_34 : decode cX8_denied 34 = .ok (.invokevirtual 208, 3) := by decide +kernel
theorem dX8_denied_37 : decode cX8_denied 37 = .ok (.return_, 1) := by decide +kernel
theorem dX8_denied_38 : decode cX8_denied 38 = .ok (.aload_n 0, 1) := by decide +kernel
theorem dX8_denied_39 : decode cX8_denied 39 = .ok (.invokevirtual 219, 3) := by decide +kernel
theorem dX8_denied_42 : decode cX8_denied 42 = .ok (.aload_n 0, 1) := by decide +kernel
theorem dX8_denied_43 : decode cX8_denied 43 = .ok (.bipush 60, 2) := by decide +kernel
theorem dX8_denied_45 : decode cX8_denied 45 = .ok (.invokevirtual 222, 3) := by decide +kernel
theorem dX8_denied_48 : decode cX8_denied 48 = .ok (.ifCond .ne 13, 3) := by decide +kernel
theorem dX8_denied_51 : decode cX8_denied 51 = .ok (.aload_n 0, 1) := by decide +kernel
theorem dX8_denied_52 : decode cX8_denied 52 = .ok (.bipush 61, 2) := by decide +kernel
theorem dX8_denied_54 : decode cX8_denied 54 = .ok (.invokevirtual 222, 3) := by decide +kernel
theorem dX8_denied_57 : decode cX8_denied 57 = .ok (.ifCond .ne 4, 3) := by decide +kernel
theorem dX8_denied_60 : decode cX8_denied 60 = .ok (.return_, 1) := by decide +kernel
theorem dX8_denied_61 : decode cX8_denied 61 = .ok (.aload_n 0, 1) := by decide +kernel
theorem dX8_denied_62 : decode cX8_denied 62 = .ok (.getfield 181, 3) := by decide +kernel
theorem dX8_denied_65 : decode cX8_denied 65 = .ok (.istore_n 1, 1) := by decide +kernel
theorem dX8_denied_66 : decode cX8_denied 66 = .ok (.aload_n 0, 1) := by decide +kernel
theorem dX8_denied_67 : decode cX8_denied 67 = .ok (.invokevirtual 199, 3) := by decide +kernel
theorem dX8_denied_70 : decode cX8_denied 70 = .ok (.aload_n 0, 1) := by decide +kernel
theorem dX8_denied_71 : decode cX8_denied 71 = .ok (.invokevirtual 219, 3) := by decide +kernel
theorem dX8_denied_74 : decode cX8_denied 74 = .ok (.aload_n 0, 1) := by decide +kernel
theorem dX8_denied_75 : decode cX8_denied 75 = .ok (.iload_n 1, 1) := by decide +kernel
theorem dX8_denied_76 : decode cX8_denied 76 = .ok (.iconst 0, 1) := by decide +kernel
theorem dX8_denied_77 : decode cX8_denied 77 = .ok (.invokevirtual 208, 3) := by decide +kernel
theorem dX8_denied_80 : decode cX8_denied 80 = .ok (.return_, 1) := by decide +kernel
theorem dX8_sum_0 : decode cX8_sum 0 = .ok (.aload_n 0, 1) := by decide +kernel
theorem dX8_sum_1 : decode cX8_sum 1 = .ok (.invokevirtual 225, 3) := by decide +kernel
theorem dX8_sum_4 : decode cX8_sum 4 = .ok (.aload_n 0, 1) := by decide +kernel
theorem dX8_sum_5 : decode cX8_sum 5 = .ok (.bipush 43, 2) := by decide +kernel
theorem dX8_sum_7 : decode cX8_sum 7 = .ok (.invokevirtual 222, 3) := by decide +kernel
theorem dX8_sum_10 : decode cX8_sum 10 = .ok (.ifCond .ne 12, 3) := by decide +kernel
theorem dX8_sum_13 : decode cX8_sum 13 = .ok (.aload_n 0, 1) := by decide +kernel
theorem dX8_sum_14 : decode cX8_sum 14 = .ok (.bipush 45, 2) := by decide +kernel
theorem dX8_sum_16 : decode cX8_sum 16 = .ok (.invokevirtual 222, 3) := by decide +kernel
theorem dX8_sum_19 : decode cX8_sum 19 = .ok (.ifCond .eq 25, 3) := by decide +kernel
theorem dX8_sum_22 : decode cX8_sum 22 = .ok (.aload_n 0, 1) := by decide +kernel
theorem dX8_sum_23 : decode cX8_sum 23 = .ok (.getfield 181, 3) := by decide +kernel
theorem dX8_sum_26 : decode cX8_sum 26 = .ok (.istore_n 1, 1) := by decide +kernel
theorem dX8_sum_27 : decode cX8_sum 27 = .ok (.aload_n 0, 1) := by decide +kernel
theorem dX8_sum_28 : decode cX8_sum 28 = .ok (.invokevirtual 199, 3) := by decide +kernel
theorem dX8_sum_31 : decode cX8_sum 31 = .ok (.aload_n 0, 1) := by decide +kernel
theorem dX8_sum_32 : decode cX8_sum 32 = .ok (.invokevirtual 225, 3) := by decide +kernel
theorem dX8_sum_35 : decode cX8_sum 35 = .ok (.aload_n 0, 1) := by decide +kernel
theorem dX8_sum_36 : decode cX8_sum 36 = .ok (.iload_n 1, 1) := by decide +kernel
theorem dX8_sum_37 : decode cX8_sum 37 = .ok (.iconst 0, 1) := by decide +kernel
theorem dX8_sum_38 : decode cX8_sum 38 = .ok (.invokevirtual 208, 3) := by decide +kernel
theorem dX8_sum_41 : decode cX8_sum 41 = .ok (.goto (-37), 3) := by decide +kernel
theorem dX8_sum_44 : decode cX8_sum 44 = .ok (.return_, 1) := by decide +kernel
theorem dX8_term_0 : decode cX8_term 0 = .ok (.aload_n 0, 1) := by decide +kernel
theorem dX8_term_1 : decode cX8_term 1 = .ok (.invokevirtual 228, 3) := by decide +kernel
theorem dX8_term_4 : decode cX8_term 4 = .ok (.aload_n 0, 1) := by decide +kernel
theorem dX8_term_5 : decode cX8_term 5 = .ok (.bipush 42, 2) := by decide +kernel
theorem dX8_term_7 : decode cX8_term 7 = .ok (.invokevirtual 222, 3) := by decide +kernel
theorem dX8_term_10 : decode cX8_term 10 = .ok (.ifCond .eq 21, 3) := by decide +kernel
theorem dX8_term_13 : decode cX8_term 13 = .ok (.aload_n 0, 1) := by decide +kernel
theorem dX8_term_14 : decode cX8_term 14 = .ok (.invokevirtual 199, 3) := by decide +kernel
theorem dX8_term_17 : decode cX8_term 17 = .ok (.aload_n 0, 1) := by decide +kernel
theorem dX8_term_18 : decode cX8_term 18 = .ok (.invokevirtual 228, 3) := by decide +kernel
theorem dX8_term_21 : decode cX8_term 21 = .ok (.aload_n 0, 1) := by decide +kernel
theorem dX8_term_22 : decode cX8_term 22 = .ok (.bipush 42, 2) := by decide +kernel
theorem dX8_term_24 : decode cX8_term 24 = .ok (.iconst 0, 1) := by decide +kernel
theorem dX8_term_25 : decode cX8_term 25 = .ok (.invokevirtual 208, 3) := by decide +kernel
theorem dX8_term_28 : decode cX8_term 28 = .ok (.goto (-24), 3) := by decide +kernel
theorem dX8_term_31 : decode cX8_term 31 = .ok (.return_, 1) := by decide +kernel
theorem dX8_one_0 : decode cX8_one 0 = .ok (.aload_n 0, 1) := by decide +kernel
theorem dX8_one_1 : decode cX8_one 1 = .ok (.getfield 187, 3) := by decide +kernel
theorem dX8_one_4 : decode cX8_one 4 = .ok (.ifCond .lt 4, 3) := by decide +kernel
theorem dX8_one_7 : decode cX8_one 7 = .ok (.return_, 1) := by decide +kernel
theorem dX8_one_8 : decode cX8_one 8 = .ok (.aload_n 0, 1) := by decide +kernel
theorem dX8_one_9 : decode cX8_one 9 = .ok (.getfield 171, 3) := by decide +kernel
theorem dX8_one_12 : decode cX8_one 12 = .ok (.iconst 2, 1) := by decide +kernel
theorem dX8_one_13 : decode cX8_one 13 = .ok (.if_icmp .ne 19, 3) := by decide +kernel
theorem dX8_one_16 : decode cX8_one 16 = .ok (.aload_n 0, 1) := by decide +kernel
theorem dX8_one_17 : decode cX8_one 17 = .ok (.iconst 1, 1) := by decide +kernel
theorem dX8_one_18 : decode cX8_one 18 = .ok (.aload_n 0, 1) := by decide +kernel
theorem dX8_one_19 : decode cX8_one 19 = .ok (.getfield 181, 3) := by decide +kernel
theorem dX8_one_22 : decode cX8_one 22 = .ok (.invokevirtual 208, 3) := by decide +kernel
theorem dX8_one_25 : decode cX8_one 25 = .ok (.aload_n 0, 1) := by decide +kernel
theorem dX8_one_26 : decode cX8_one 26 = .ok (.invokevirtual 199, 3) := by decide +kernel
theorem dX8_one_29 : decode cX8_one 29 = .ok (.goto 132, 3) := by decide +kernel
theorem dX8_one_32 : decode cX8_one 32 = .ok (.aload_n 0, 1) := by decide +kernel
theorem dX8_one_33 : decode cX8_one 33 = .ok (.getfield 171, 3) := by decide +kernel
theorem dX8_one_36 : decode cX8_one 36 = .ok (.iconst 1, 1) := by decide +kernel
theorem dX8_one_37 : decode cX8_one 37 = .ok (.if_icmp .ne 28, 3) := by decide +kernel
theorem dX8_one_40 : decode cX8_one 40 = .ok (.aload_n 0, 1) := by decide +kernel
theorem dX8_one_41 : decode cX8_one 41 = .ok (.getfield 181, 3) := by decide +kernel
theorem dX8_one_44 : decode cX8_one 44 = .ok (.bipush 6, 2) := by decide +kernel
theorem dX8_one_46 : decode cX8_one 46 = .ok (.if_icmp .ge 19, 3) := by decide +kernel
theorem dX8_one_49 : decode cX8_one 49 = .ok (.aload_n 0, 1) := by decide +kernel
theorem dX8_one_50 : decode cX8_one 50 = .ok (.iconst 2, 1) := by decide +kernel
theorem dX8_one_51 : decode cX8_one 51 = .ok (.aload_n 0, 1) := by decide +kernel
theorem dX8_one_52 : decode cX8_one 52 = .ok (.getfield 181, 3) := by decide +kernel
theorem dX8_one_55 : decode cX8_one 55 = .ok (.invokevirtual 208, 3) := by decide +kernel
theorem dX8_one_58 : decode cX8_one 58 = .ok (.aload_n 0, 1) := by decide +kernel
theorem dX8_one_59 : decode cX8_one 59 = .ok (.invokevirtual 199, 3) := by decide +kernel
theorem dX8_one_62 : decode cX8_one 62 = .ok (.goto 99, 3) := by decide +kernel
theorem dX8_one_65 : decode cX8_one 65 = .ok (.aload_n 0, 1) := by decide +kernel
theorem dX8_one_66 : decode cX8_one 66 = .ok (.bipush 45, 2) := by decide +kernel
theorem dX8_one_68 : decode cX8_one 68 = .ok (.invokevirtual 222, 3) := by decide +kernel
theorem dX8_one_71 : decode cX8_one 71 = .ok (.ifCond .eq 34, 3) := by decide +kernel
theorem dX8_one_74 : decode cX8_one 74 = .ok (.aload_n 0, 1) := by decide +kernel
theorem dX8_one_75 : decode cX8_one 75 = .ok (.invokevirtual 215, 3) := by decide +kernel
theorem dX8_one_78 : decode cX8_one 78 = .ok (.ifCond .ne 4, 3) := by decide +kernel
theorem dX8_one_81 : decode cX8_one 81 = .ok (.return_, 1) := by decide +kernel
theorem dX8_one_82 : decode cX8_one 82 = .ok (.aload_n 0, 1) := by decide +kernel
theorem dX8_one_83 : decode cX8_one 83 = .ok (.invokevirtual 228, 3) := by decide +kernel
theorem dX8_one_86 : decode cX8_one 86 = .ok (.aload_n 0, 1) := by decide +kernel
theorem dX8_one_87 : decode cX8_one 87 = .ok (.dup, 1) := by decide +kernel
theorem dX8_one_88 : decode cX8_one 88 = .ok (.getfield 193, 3) := by decide +kernel
theorem dX8_one_91 : decode cX8_one 91 = .ok (.iconst 1, 1) := by decide +kernel
theorem dX8_one_92 : decode cX8_one 92 = .ok (.isub, 1) := by decide +kernel
theorem dX8_one_93 : decode cX8_one 93 = .ok (.putfield 193, 3) := by decide +kernel
theorem dX8_one_96 : decode cX8_one 96 = .ok (.aload_n 0, 1) := by decide +kernel
theorem dX8_one_97 : decode cX8_one 97 = .ok (.iconst 4, 1) := by decide +kernel
theorem dX8_one_98 : decode cX8_one 98 = .ok (.iconst 0, 1) := by decide +kernel
theorem dX8_one_99 : decode cX8_one 99 = .ok (.invokevirtual 208, 3) := by decide +kernel
theorem dX8_one_102 : decode cX8_one 102 = .ok (.goto 59, 3) := by decide +kernel
theorem dX8_one_105 : decode cX8_one 105 = .ok (.aload_n 0, 1) := by decide +kernel
theorem dX8_one_106 : decode cX8_one 106 = .ok (.bipush 40, 2) := by decide +kernel
theorem dX8_one_108 : decode cX8_one 108 = .ok (.invokevirtual 222, 3) := by decide +kernel
theorem dX8_one_111 : decode cX8_one 111 = .ok (.ifCond .eq 46, 3) := by decide +kernel
theorem dX8_one_114 : decode cX8_one 114 = .ok (.aload_n 0, 1) := by decide +kernel
theorem dX8_one_115 : decode cX8_one 115 = .ok (.invokevirtual 215, 3) := by decide +kernel
theorem dX8_one_118 : decode cX8_one 118 = .ok (.ifCond .ne 4, 3) := by decide +kernel
theorem dX8_one_121 : decode cX8_one 121 = .ok (.return_, 1) := by decide +kernel
theorem dX8_one_122 : decode cX8_one 122 = .ok (.aload_n 0, 1) := by decide +kernel
theorem dX8_one_123 : decode cX8_one 123 = .ok (.invokevirtual 231, 3) := by decide +kernel
theorem dX8_one_126 : decode cX8_one 126 = .ok (.aload_n 0, 1) := by decide +kernel
theorem dX8_one_127 : decode cX8_one 127 = .ok (.bipush 41, 2) := by decide +kernel
theorem dX8_one_129 : decode cX8_one 129 = .ok (.invokevirtual 222, 3) := by decide +kernel
theorem dX8_one_132 : decode cX8_one 132 = .ok (.ifCond .ne 8, 3) := by decide +kernel
theorem dX8_one_135 : decode cX8_one 135 = .ok (.aload_n 0, 1) := by decide +kernel
theorem dX8_one_136 : decode cX8_one 136 = .ok (.invokevirtual 196, 3) := by decide +kernel
theorem dX8_one_139 : decode cX8_one 139 = .ok (.return_, 1) := by decide +kernel
theorem dX8_one_140 : decode cX8_one 140 = .ok (.aload_n 0, 1) := by decide +kernel
theorem dX8_one_141 : decode cX8_one 141 = .ok (.dup, 1) := by decide +kernel
theorem dX8_one_142 : decode cX8_one 142 = .ok (.getfield 193, 3) := by decide +kernel
theorem dX8_one_145 : decode cX8_one 145 = .ok (.iconst 1, 1) := by decide +kernel
theorem dX8_one_146 : decode cX8_one 146 = .ok (.isub, 1) := by decide +kernel
theorem dX8_one_147 : decode cX8_one 147 = .ok (.putfield 193, 3) := by decide +kernel
theorem dX8_one_150 : decode cX8_one 150 = .ok (.aload_n 0, 1) := by decide +kernel
theorem dX8_one_151 : decode cX8_one 151 = .ok (.invokevirtual 199, 3) := by decide +kernel
theorem dX8_one_154 : decode cX8_one 154 = .ok (.goto 7, 3) := by decide +kernel
theorem dX8_one_157 : decode cX8_one 157 = .ok (.aload_n 0, 1) := by decide +kernel
theorem dX8_one_158 : decode cX8_one 158 = .ok (.invokevirtual 196, 3) := by decide +kernel
theorem dX8_one_161 : decode cX8_one 161 = .ok (.return_, 1) := by decide +kernel
theorem dX8_rule_0 : decode cX8_rule 0 = .ok (.aload_n 0, 1) := by decide +kernel
theorem dX8_rule_1 : decode cX8_rule 1 = .ok (.bipush 10, 2) := by decide +kernel
theorem dX8_rule_3 : decode cX8_rule 3 = .ok (.iload_n 1, 1) := by decide +kernel
theorem dX8_rule_4 : decode cX8_rule 4 = .ok (.iadd, 1) := by decide +kernel
theorem dX8_rule_5 : decode cX8_rule 5 = .ok (.invokevirtual 205, 3) := by decide +kernel
theorem dX8_rule_8 : decode cX8_rule 8 = .ok (.ifCond .ne 8, 3) := by decide +kernel
theorem dX8_rule_11 : decode cX8_rule 11 = .ok (.aload_n 0, 1) := by decide +kernel
theorem dX8_rule_12 : decode cX8_rule 12 = .ok (.invokevirtual 196, 3) := by decide +kernel
theorem dX8_rule_15 : decode cX8_rule 15 = .ok (.return_, 1) := by decide +kernel
theorem dX8_rule_16 : decode cX8_rule 16 = .ok (.aload_n 0, 1) := by decide +kernel
theorem dX8_rule_17 : decode cX8_rule 17 = .ok (.invokevirtual 199, 3) := by decide +kernel
theorem dX8_rule_20 : decode cX8_rule 20 = .ok (.aload_n 0, 1) := by decide +kernel
theorem dX8_rule_21 : decode cX8_rule 21 = .ok (.invokevirtual 231, 3) := by decide +kernel
theorem dX8_rule_24 : decode cX8_rule 24 = .ok (.aload_n 0, 1) := by decide +kernel
theorem dX8_rule_25 : decode cX8_rule 25 = .ok (.bipush 59, 2) := by decide +kernel
theorem dX8_rule_27 : decode cX8_rule 27 = .ok (.invokevirtual 222, 3) := by decide +kernel
theorem dX8_rule_30 : decode cX8_rule 30 = .ok (.ifCond .ne 8, 3) := by decide +kernel
theorem dX8_rule_33 : decode cX8_rule 33 = .ok (.aload_n 0, 1) := by decide +kernel
theorem dX8_rule_34 : decode cX8_rule 34 = .ok (.invokevirtual 196, 3) := by decide +kernel
theorem dX8_rule_37 : decode cX8_rule 37 = .ok (.return_, 1) := by decide +kernel
theorem dX8_rule_38 : decode cX8_rule 38 = .ok (.aload_n 0, 1) := by decide +kernel
theorem dX8_rule_39 : decode cX8_rule 39 = .ok (.invokevirtual 199, 3) := by decide +kernel
theorem dX8_rule_42 : decode cX8_rule 42 = .ok (.aload_n 0, 1) := by decide +kernel
theorem dX8_rule_43 : decode cX8_rule 43 = .ok (.getfield 66, 3) := by decide +kernel
theorem dX8_rule_46 : decode cX8_rule 46 = .ok (.bipush 18, 2) := by decide +kernel
theorem dX8_rule_48 : decode cX8_rule 48 = .ok (.iload_n 1, 1) := by decide +kernel
theorem dX8_rule_49 : decode cX8_rule 49 = .ok (.iadd, 1) := by decide +kernel
theorem dX8_rule_50 : decode cX8_rule 50 = .ok (.aload_n 0, 1) := by decide +kernel
theorem dX8_rule_51 : decode cX8_rule 51 = .ok (.getfield 190, 3) := by decide +kernel
theorem dX8_rule_54 : decode cX8_rule 54 = .ok (.iastore, 1) := by decide +kernel
theorem dX8_rule_55 : decode cX8_rule 55 = .ok (.return_, 1) := by decide +kernel
theorem dX8_text_0 : decode cX8_text 0 = .ok (.aload_n 0, 1) := by decide +kernel
theorem dX8_text_1 : decode cX8_text 1 = .ok (.getfield 57, 3) := by decide +kernel
theorem dX8_text_4 : decode cX8_text 4 = .ok (.bipush 6, 2) := by decide +kernel
theorem dX8_text_6 : decode cX8_text 6 = .ok (.if_icmp .ne 6, 3) := by decide +kernel
theorem dX8_text_9 : decode cX8_text 9 = .ok (.bipush (-4), 2) := by decide +kernel
theorem dX8_text_11 : decode cX8_text 11 = .ok (.ireturn, 1) := by decide +kernel
theorem dX8_text_12 : decode cX8_text 12 = .ok (.aload_n 0, 1) := by decide +kernel
theorem dX8_text_13 : decode cX8_text 13 = .ok (.iconst 0, 1) := by decide +kernel
theorem dX8_text_14 : decode cX8_text 14 = .ok (.putfield 168, 3) := by decide +kernel
theorem dX8_text_17 : decode cX8_text 17 = .ok (.aload_n 0, 1) := by decide +kernel
theorem dX8_text_18 : decode cX8_text 18 = .ok (.iconst (-1), 1) := by decide +kernel
theorem dX8_text_19 : decode cX8_text 19 = .ok (.putfield 187, 3) := by decide +kernel
theorem dX8_text_22 : decode cX8_text 22 = .ok (.aload_n 0, 1) := by decide +kernel
theorem dX8_text_23 : decode cX8_text 23 = .ok (.iconst 0, 1) := by decide +kernel
theorem dX8_text_24 : decode cX8_text 24 = .ok (.putfield 193, 3) := by decide +kernel
theorem dX8_text_27 : decode cX8_text 27 = .ok (.aload_n 0, 1) := by decide +kernel
theorem dX8_text_28 : decode cX8_text 28 = .ok (.iconst 0, 1) := by decide +kernel
theorem dX8_text_29 : decode cX8_text 29 = .ok (.putfield 190, 3) := by decide +kernel
theorem dX8_text_32 : decode cX8_text 32 = .ok (.aload_n 0, 1) := by decide +kernel
theorem dX8_text_33 : decode cX8_text 33 = .ok (.invokevirtual 199, 3) := by decide +kernel
theorem dX8_text_36 : decode cX8_text 36 = .ok (.iconst 0, 1) := by decide +kernel
theorem dX8_text_37 : decode cX8_text 37 = .ok (.istore_n 1, 1) := by decide +kernel
theorem dX8_text_38 : decode cX8_text 38 = .ok (.iload_n 1, 1) := by decide +kernel
theorem dX8_text_39 : decode cX8_text 39 = .ok (.iconst 2, 1) := by decide +kernel
theorem dX8_text_40 : decode cX8_text 40 = .ok (.if_icmp .gt 21, 3) := by decide +kernel
theorem dX8_text_43 : decode cX8_text 43 = .ok (.aload_n 0, 1) := by decide +kernel
theorem dX8_text_44 : decode cX8_text 44 = .ok (.getfield 187, 3) := by decide +kernel
theorem dX8_text_47 : decode cX8_text 47 = .ok (.ifCond .ge 14, 3) := by decide +kernel
theorem dX8_text_50 : decode cX8_text 50 = .ok (.aload_n 0, 1) := by decide +kernel
theorem dX8_text_51 : decode cX8_text 51 = .ok (.iload_n 1, 1) := by decide +kernel
theorem dX8_text_52 : decode cX8_text 52 = .ok (.invokevirtual 234, 3) := by decide +kernel
theorem dX8_text_55 : decode cX8_text 55 = .ok (.iinc 1 1, 3) := by decide +kernel
theorem dX8_text_58 : decode cX8_text 58 = .ok (.goto (-20), 3) := by decide +kernel
theorem dX8_text_61 : decode cX8_text 61 = .ok (.aload_n 0, 1) := by decide +kernel
theorem dX8_text_62 : decode cX8_text 62 = .ok (.getfield 187, 3) := by decide +kernel
theorem dX8_text_65 : decode cX8_text 65 = .ok (.ifCond .ge 15, 3) := by decide +kernel
theorem dX8_text_68 : decode cX8_text 68 = .ok (.aload_n 0, 1) := by decide +kernel
theorem dX8_text_69 : decode cX8_text 69 = .ok (.getfield 171, 3) := by decide +kernel
theorem dX8_text_72 : decode cX8_text 72 = .ok (.iconst 4, 1) := by decide +kernel
theorem dX8_text_73 : decode cX8_text 73 = .ok (.if_icmp .eq 7, 3) := by decide +kernel
theorem dX8_text_76 : decode cX8_text 76 = .ok (.aload_n 0, 1) := by decide +kernel
theorem dX8_text_77 : decode cX8_text 77 = .ok (.invokevirtual 196, 3) := by decide +kernel
theorem dX8_text_80 : decode cX8_text 80 = .ok (.aload_n 0, 1) := by decide +kernel
theorem dX8_text_81 : decode cX8_text 81 = .ok (.iconst 0, 1) := by decide +kernel
theorem dX8_text_82 : decode cX8_text 82 = .ok (.putfield 162, 3) := by decide +kernel
theorem dX8_text_85 : decode cX8_text 85 = .ok (.aload_n 0, 1) := by decide +kernel
theorem dX8_text_86 : decode cX8_text 86 = .ok (.getfield 187, 3) := by decide +kernel
theorem dX8_text_89 : decode cX8_text 89 = .ok (.ifCond .lt 11, 3) := by decide +kernel
theorem dX8_text_92 : decode cX8_text 92 = .ok (.bipush (-100), 2) := by decide +kernel
theorem dX8_text_94 : decode cX8_text 94 = .ok (.aload_n 0, 1) := by decide +kernel
theorem dX8_text_95 : decode cX8_text 95 = .ok (.getfield 187, 3) := by decide +kernel
theorem dX8_text_98 : decode cX8_text 98 = .ok (.isub, 1) := by decide +kernel
theorem dX8_text_99 : decode cX8_text 99 = .ok (.ireturn, 1) := by decide +kernel
theorem dX8_text_100 : decode cX8_text 100 = .ok (.iconst 0, 1) := by decide +kernel
theorem dX8_text_101 : decode cX8_text 101 = .ok (.istore_n 1, 1) := by decide +kernel
theorem dX8_text_102 : decode cX8_text 102 = .ok (.iload_n 1, 1) := by decide +kernel
theorem dX8_text_103 : decode cX8_text 103 = .ok (.aload_n 0, 1) := by decide +kernel
theorem dX8_text_104 : decode cX8_text 104 = .ok (.getfield 190, 3) := by decide +kernel
theorem dX8_text_107 : decode cX8_text 107 = .ok (.if_icmp .ge 59, 3) := by decide +kernel
theorem dX8_text_110 : decode cX8_text 110 = .ok (.aload_n 0, 1) := by decide +kernel
theorem dX8_text_111 : decode cX8_text 111 = .ok (.getfield 60, 3) := by decide +kernel
theorem dX8_text_114 : decode cX8_text 114 = .ok (.sipush 170, 3) := by decide +kernel
theorem dX8_text_117 : decode cX8_text 117 = .ok (.aload_n 0, 1) := by decide +kernel
theorem dX8_text_118 : decode cX8_text 118 = .ok (.getfield 57, 3) := by decide +kernel
theorem dX8_text_121 : decode cX8_text 121 = .ok (.imul, 1) := by decide +kernel
theorem dX8_text_122 : decode cX8_text 122 = .ok (.iload_n 1, 1) := by decide +kernel
theorem dX8_text_123 : decode cX8_text 123 = .ok (.iadd, 1) := by decide +kernel
theorem dX8_text_124 : decode cX8_text 124 = .ok (.aload_n 0, 1) := by decide +kernel
theorem dX8_text_125 : decode cX8_text 125 = .ok (.getfield 60, 3) := by decide +kernel
theorem dX8_text_128 : decode cX8_text 128 = .ok (.sipush 1020, 3) := by decide +kernel
theorem dX8_text_131 : decode cX8_text 131 = .ok (.iload_n 1, 1) := by decide +kernel
theorem dX8_text_132 : decode cX8_text 132 = .ok (.iadd, 1) := by decide +kernel
theorem dX8_text_133 : decode cX8_text 133 = .ok (.iaload, 1) := by decide +kernel
theorem dX8_text_134 : decode cX8_text 134 = .ok (.iastore, 1) := by decide +kernel
theorem dX8_text_135 : decode cX8_text 135 = .ok (.aload_n 0, 1) := by decide +kernel
theorem dX8_text_136 : decode cX8_text 136 = .ok (.getfield 63, 3) := by decide +kernel
theorem dX8_text_139 : decode cX8_text 139 = .ok (.sipush 170, 3) := by decide +kernel
theorem dX8_text_142 : decode cX8_text 142 = .ok (.aload_n 0, 1) := by decide +kernel
theorem dX8_text_143 : decode cX8_text 143 = .ok (.getfield 57, 3) := by decide +kernel
theorem dX8_text_146 : decode cX8_text 146 = .ok (.imul, 1) := by decide +kernel
theorem dX8_text_147 : decode cX8_text 147 = .ok (.iload_n 1, 1) := by decide +kernel
theorem dX8_text_148 : decode cX8_text 148 = .ok (.iadd, 1) := by decide +kernel
theorem dX8_text_149 : decode cX8_text 149 = .ok (.aload_n 0, 1) := by decide +kernel
theorem dX8_text_150 : decode cX8_text 150 = .ok (.getfield 63, 3) := by decide +kernel
theorem dX8_text_153 : decode cX8_text 153 = .ok (.sipush 1020, 3) := by decide +kernel
theorem dX8_text_156 : decode cX8_text 156 = .ok (.iload_n 1, 1) := by decide +kernel
theorem dX8_text_157 : decode cX8_text 157 = .ok (.iadd, 1) := by decide +kernel
theorem dX8_text_158 : decode cX8_text 158 = .ok (.iaload, 1) := by decide +kernel
theorem dX8_text_159 : decode cX8_text 159 = .ok (.iastore, 1) := by decide +kernel
theorem dX8_text_160 : decode cX8_text 160 = .ok (.iinc 1 1, 3) := by decide +kernel
theorem dX8_text_163 : decode cX8_text 163 = .ok (.goto (-61), 3) := by decide +kernel
theorem dX8_text_166 : decode cX8_text 166 = .ok (.iconst 0, 1) := by decide +kernel
theorem dX8_text_167 : decode cX8_text 167 = .ok (.istore_n 1, 1) := by decide +kernel
theorem dX8_text_168 : decode cX8_text 168 = .ok (.iload_n 1, 1) := by decide +kernel
theorem dX8_text_169 : decode cX8_text 169 = .ok (.iconst 3, 1) := by decide +kernel
theorem dX8_text_170 : decode cX8_text 170 = .ok (.if_icmp .ge 31, 3) := by decide +kernel
theorem dX8_text_173 : decode cX8_text 173 = .ok (.aload_n 0, 1) := by decide +kernel
theorem dX8_text_174 : decode cX8_text 174 = .ok (.getfield 66, 3) := by decide +kernel
theorem dX8_text_177 : decode cX8_text 177 = .ok (.iconst 3, 1) := by decide +kernel
theorem dX8_text_178 : decode cX8_text 178 = .ok (.aload_n 0, 1) := by decide +kernel
theorem dX8_text_179 : decode cX8_text 179 = .ok (.getfield 57, 3) := by decide +kernel
theorem dX8_text_182 : decode cX8_text 182 = .ok (.imul, 1) := by decide +kernel
theorem dX8_text_183 : decode cX8_text 183 = .ok (.iload_n 1, 1) := by decide +kernel
theorem dX8_text_184 : decode cX8_text 184 = .ok (.iadd, 1) := by decide +kernel
theorem dX8_text_185 : decode cX8_text 185 = .ok (.aload_n 0, 1) := by decide +kernel
theorem dX8_text_186 : decode cX8_text 186 = .ok (.getfield 66, 3) := by decide +kernel
theorem dX8_text_189 : decode cX8_text 189 = .ok (.bipush 18, 2) := by decide +kernel
theorem dX8_text_191 : decode cX8_text 191 = .ok (.iload_n 1, 1) := by decide +kernel
theorem dX8_text_192 : decode cX8_text 192 = .ok (.iadd, 1) := by decide +kernel
theorem dX8_text_193 : decode cX8_text 193 = .ok (.iaload, 1) := by decide +kernel
theorem dX8_text_194 : decode cX8_text 194 = .ok (.iastore, 1) := by decide +kernel
theorem dX8_text_195 : decode cX8_text 195 = .ok (.iinc 1 1, 3) := by decide +kernel
theorem dX8_text_198 : decode cX8_text 198 = .ok (.goto (-30), 3) := by decide +kernel
theorem dX8_text_201 : decode cX8_text 201 = .ok (.aload_n 0, 1) := by decide +kernel
theorem dX8_text_202 : decode cX8_text 202 = .ok (.dup, 1) := by decide +kernel
theorem dX8_text_203 : decode cX8_text 203 = .ok (.getfield 57, 3) := by decide +kernel
theorem dX8_text_206 : decode cX8_text 206 = .ok (.iconst 1, 1) := by decide +kernel
theorem dX8_text_207 : decode cX8_text 207 = .ok (.iadd, 1) := by decide +kernel
theorem dX8_text_208 : decode cX8_text 208 = .ok (.putfield 57, 3) := by decide +kernel
theorem dX8_text_211 : decode cX8_text 211 = .ok (.aload_n 0, 1) := by decide +kernel
theorem dX8_text_212 : decode cX8_text 212 = .ok (.getfield 57, 3) := by decide +kernel
theorem dX8_text_215 : decode cX8_text 215 = .ok (.iconst 1, 1) := by decide +kernel
theorem dX8_text_216 : decode cX8_text 216 = .ok (.isub, 1) := by decide +kernel
theorem dX8_text_217 : decode cX8_text 217 = .ok (.ireturn, 1) := by decide +kernel
theorem dX8_force_0 : decode cX8_force 0 = .ok (.iload_n 1, 1) := by decide +kernel
theorem dX8_force_1 : decode cX8_force 1 = .ok (.iconst 0, 1) := by decide +kernel
theorem dX8_force_2 : decode cX8_force 2 = .ok (.aload_n 0, 1) := by decide +kernel
theorem dX8_force_3 : decode cX8_force 3 = .ok (.getfield 57, 3) := by decide +kernel
theorem dX8_force_6 : decode cX8_force 6 = .ok (.iconst 1, 1) := by decide +kernel
theorem dX8_force_7 : decode cX8_force 7 = .ok (.isub, 1) := by decide +kernel
theorem dX8_force_8 : decode cX8_force 8 = .ok (.invokestatic 132, 3) := by decide +kernel
theorem dX8_force_11 : decode cX8_force 11 = .ok (.ifCond .ne 6, 3) := by decide +kernel
theorem dX8_force_14 : decode cX8_force 14 = .ok (.bipush (-2), 2) := by decide +kernel
theorem dX8_force_16 : decode cX8_force 16 = .ok (.ireturn, 1) := by decide +kernel
theorem dX8_force_17 : decode cX8_force 17 = .ok (.aload_n 0, 1) := by decide +kernel
theorem dX8_force_18 : decode cX8_force 18 = .ok (.getfield 238, 3) := by decide +kernel
theorem dX8_force_21 : decode cX8_force 21 = .ok (.istore_n 2, 1) := by decide +kernel
theorem dX8_force_22 : decode cX8_force 22 = .ok (.aload_n 0, 1) := by decide +kernel
theorem dX8_force_23 : decode cX8_force 23 = .ok (.iload_n 1, 1) := by decide +kernel
theorem dX8_force_24 : decode cX8_force 24 = .ok (.putfield 238, 3) := by decide +kernel
theorem dX8_force_27 : decode cX8_force 27 = .ok (.iload_n 2, 1) := by decide +kernel
theorem dX8_force_28 : decode cX8_force 28 = .ok (.ireturn, 1) := by decide +kernel
theorem dX8_twoOf_0 : decode cX8_twoOf 0 = .ok (.iload_n 0, 1) := by decide +kernel
theorem dX8_twoOf_1 : decode cX8_twoOf 1 = .ok (.lookupswitch 117 #[(5, 59), (6, 73), (43, 109), (45, 113), (60, 87), (61, 98)], 59) := by decide +kernel
theorem dX8_twoOf_60 : decode cX8_twoOf 60 = .ok (.iload_n 1, 1) := by decide +kernel
theorem dX8_twoOf_61 : decode cX8_twoOf 61 = .ok (.ifCond .ne 7, 3) := by decide +kernel
theorem dX8_twoOf_64 : decode cX8_twoOf 64 = .ok (.iload_n 2, 1) := by decide +kernel
theorem dX8_twoOf_65 : decode cX8_twoOf 65 = .ok (.ifCond .eq 7, 3) := by decide +kernel
theorem dX8_twoOf_68 : decode cX8_twoOf 68 = .ok (.iconst 1, 1) := by decide +kernel
theorem dX8_twoOf_69 : decode cX8_twoOf 69 = .ok (.goto 4, 3) := by decide +kernel
theorem dX8_twoOf_72 : decode cX8_twoOf 72 = .ok (.iconst 0, 1) := by decide +kernel
theorem dX8_twoOf_73 : decode cX8_twoOf 73 = .ok (.ireturn, 1) := by decide +kernel
theorem dX8_twoOf_74 : decode cX8_twoOf 74 = .ok (.iload_n 1, 1) := by decide +kernel
theorem dX8_twoOf_75 : decode cX8_twoOf 75 = .ok (.ifCond .eq 11, 3) := by decide +kernel
theorem dX8_twoOf_78 : decode cX8_twoOf 78 = .ok (.iload_n 2, 1) := by decide +kernel
theorem dX8_twoOf_79 : decode cX8_twoOf 79 = .ok (.ifCond .eq 7, 3) := by decide +kernel
theorem dX8_twoOf_82 : decode cX8_twoOf 82 = .ok (.iconst 1, 1) := by decide +kernel
theorem dX8_twoOf_83 : decode cX8_twoOf 83 = .ok (.goto 4, 3) := by decide +kernel
theorem dX8_twoOf_86 : decode cX8_twoOf 86 = .ok (.iconst 0, 1) := by decide +kernel
theorem dX8_twoOf_87 : decode cX8_twoOf 87 = .ok (.ireturn, 1) := by decide +kernel
theorem dX8_twoOf_88 : decode cX8_twoOf 88 = .ok (.iload_n 1, 1) := by decide +kernel
theorem dX8_twoOf_89 : decode cX8_twoOf 89 = .ok (.iload_n 2, 1) := by decide +kernel
theorem dX8_twoOf_90 : decode cX8_twoOf 90 = .ok (.if_icmp .ge 7, 3) := by decide +kernel
theorem dX8_twoOf_93 : decode cX8_twoOf 93 = .ok (.iconst 1, 1) := by decide +kernel
theorem dX8_twoOf_94 : decode cX8_twoOf 94 = .ok (.goto 4, 3) := by decide +kernel
theorem dX8_twoOf_97 : decode cX8_twoOf 97 = .ok (.iconst 0, 1) := by decide +kernel
theorem dX8_twoOf_98 : decode cX8_twoOf 98 = .ok (.ireturn, 1) := by decide +kernel
theorem dX8_twoOf_99 : decode cX8_twoOf 99 = .ok (.iload_n 1, 1) := by decide +kernel
theorem dX8_twoOf_100 : decode cX8_twoOf 100 = .ok (.iload_n 2, 1) := by decide +kernel
theorem dX8_twoOf_101 : decode cX8_twoOf 101 = .ok (.if_icmp .ne 7, 3) := by decide +kernel
theorem dX8_twoOf_104 : decode cX8_twoOf 104 = .ok (.iconst 1, 1) := by decide +kernel
theorem dX8_twoOf_105 : decode cX8_twoOf 105 = .ok (.goto 4, 3) := by decide +kernel
theorem dX8_twoOf_108 : decode cX8_twoOf 108 = .ok (.iconst 0, 1) := by decide +kernel
theorem dX8_twoOf_109 : decode cX8_twoOf 109 = .ok (.ireturn, 1) := by decide +kernel
theorem dX8_twoOf_110 : decode cX8_twoOf 110 = .ok (.iload_n 1, 1) := by decide +kernel
theorem dX8_twoOf_111 : decode cX8_twoOf 111 = .ok (.iload_n 2, 1) := by decide +kernel
theorem dX8_twoOf_112 : decode cX8_twoOf 112 = .ok (.iadd, 1) := by decide +kernel
theorem dX8_twoOf_113 : decode cX8_twoOf 113 = .ok (.ireturn, 1) := by decide +kernel
theorem dX8_twoOf_114 : decode cX8_twoOf 114 = .ok (.iload_n 1, 1) := by decide +kernel
theorem dX8_twoOf_115 : decode cX8_twoOf 115 = .ok (.iload_n 2, 1) := by decide +kernel
theorem dX8_twoOf_116 : decode cX8_twoOf 116 = .ok (.isub, 1) := by decide +kernel
theorem dX8_twoOf_117 : decode cX8_twoOf 117 = .ok (.ireturn, 1) := by decide +kernel
theorem dX8_twoOf_118 : decode cX8_twoOf 118 = .ok (.iload_n 1, 1) := by decide +kernel
theorem dX8_twoOf_119 : decode cX8_twoOf 119 = .ok (.iload_n 2, 1) := by decide +kernel
theorem dX8_twoOf_120 : decode cX8_twoOf 120 = .ok (.imul, 1) := by decide +kernel
theorem dX8_twoOf_121 : decode cX8_twoOf 121 = .ok (.ireturn, 1) := by decide +kernel
theorem dX8_gives_0 : decode cX8_gives 0 = .ok (.aload_n 0, 1) := by decide +kernel
theorem dX8_gives_1 : decode cX8_gives 1 = .ok (.getfield 238, 3) := by decide +kernel
theorem dX8_gives_4 : decode cX8_gives 4 = .ok (.ifCond .ne 36, 3) := by decide +kernel
theorem dX8_gives_7 : decode cX8_gives 7 = .ok (.iload_n 1, 1) := by decide +kernel
theorem dX8_gives_8 : decode cX8_gives 8 = .ok (.ifCond .ne 21, 3) := by decide +kernel
theorem dX8_gives_11 : decode cX8_gives 11 = .ok (.aload_n 0, 1) := by decide +kernel
theorem dX8_gives_12 : decode cX8_gives 12 = .ok (.getfield 72, 3) := by decide +kernel
theorem dX8_gives_15 : decode cX8_gives 15 = .ok (.iconst 4, 1) := by decide +kernel
theorem dX8_gives_16 : decode cX8_gives 16 = .ok (.iaload, 1) := by decide +kernel
theorem dX8_gives_17 : decode cX8_gives 17 = .ok (.iconst 3, 1) := by decide +kernel
theorem dX8_gives_18 : decode cX8_gives 18 = .ok (.imul, 1) := by decide +kernel
theorem dX8_gives_19 : decode cX8_gives 19 = .ok (.aload_n 0, 1) := by decide +kernel
theorem dX8_gives_20 : decode cX8_gives 20 = .ok (.getfield 72, 3) := by decide +kernel
theorem dX8_gives_23 : decode cX8_gives 23 = .ok (.iconst 5, 1) := by decide +kernel
theorem dX8_gives_24 : decode cX8_gives 24 = .ok (.iaload, 1) := by decide +kernel
theorem dX8_gives_25 : decode cX8_gives 25 = .ok (.isub, 1) := by decide +kernel
theorem dX8_gives_26 : decode cX8_gives 26 = .ok (.goto 13, 3) := by decide +kernel
theorem dX8_gives_29 : decode cX8_gives 29 = .ok (.iload_n 1, 1) := by decide +kernel
theorem dX8_gives_30 : decode cX8_gives 30 = .ok (.iconst 1, 1) := by decide +kernel
theorem dX8_gives_31 : decode cX8_gives 31 = .ok (.if_icmp .ne 7, 3) := by decide +kernel
theorem dX8_gives_34 : decode cX8_gives 34 = .ok (.iconst 0, 1) := by decide +kernel
theorem dX8_gives_35 : decode cX8_gives 35 = .ok (.goto 4, 3) := by decide +kernel
theorem dX8_gives_38 : decode cX8_gives 38 = .ok (.iconst 1, 1) := by decide +kernel
theorem dX8_gives_39 : decode cX8_gives 39 = .ok (.ireturn, 1) := by decide +kernel
theorem dX8_gives_40 : decode cX8_gives 40 = .ok (.iconst 0, 1) := by decide +kernel
theorem dX8_gives_41 : decode cX8_gives 41 = .ok (.istore_n 2, 1) := by decide +kernel
theorem dX8_gives_42 : decode cX8_gives 42 = .ok (.iload_n 1, 1) := by decide +kernel
theorem dX8_gives_43 : decode cX8_gives 43 = .ok (.ifCond .ne 7, 3) := by decide +kernel
theorem dX8_gives_46 : decode cX8_gives 46 = .ok (.iconst 0, 1) := by decide +kernel
theorem dX8_gives_47 : decode cX8_gives 47 = .ok (.goto 18, 3) := by decide +kernel
theorem dX8_gives_50 : decode cX8_gives 50 = .ok (.aload_n 0, 1) := by decide +kernel
theorem dX8_gives_51 : decode cX8_gives 51 = .ok (.getfield 66, 3) := by decide +kernel
theorem dX8_gives_54 : decode cX8_gives 54 = .ok (.iconst 3, 1) := by decide +kernel
theorem dX8_gives_55 : decode cX8_gives 55 = .ok (.aload_n 0, 1) := by decide +kernel
theorem dX8_gives_56 : decode cX8_gives 56 = .ok (.getfield 238, 3) := by decide +kernel
theorem dX8_gives_59 : decode cX8_gives 59 = .ok (.imul, 1) := by decide +kernel
theorem dX8_gives_60 : decode cX8_gives 60 = .ok (.iload_n 1, 1) := by decide +kernel
theorem dX8_gives_61 : decode cX8_gives 61 = .ok (.iadd, 1) := by decide +kernel
theorem dX8_gives_62 : decode cX8_gives 62 = .ok (.iconst 1, 1) := by decide +kernel
theorem dX8_gives_63 : decode cX8_gives 63 = .ok (.isub, 1) := by decide +kernel
theorem dX8_gives_64 : decode cX8_gives 64 = .ok (.iaload, 1) := by decide +kernel
theorem dX8_gives_65 : decode cX8_gives 65 = .ok (.istore_n 3, 1) := by decide +kernel
theorem dX8_gives_66 : decode cX8_gives 66 = .ok (.sipush 170, 3) := by decide +kernel
theorem dX8_gives_69 : decode cX8_gives 69 = .ok (.aload_n 0, 1) := by decide +kernel
theorem dX8_gives_70 : decode cX8_gives 70 = .ok (.getfield 238, 3) := by decide +kernel
theorem dX8_gives_73 : decode cX8_gives 73 = .ok (.imul, 1) := by decide +kernel
theorem dX8_gives_74 : decode cX8_gives 74 = .ok (.iload_n 3, 1) := by decide +kernel
theorem dX8_gives_75 : decode cX8_gives 75 = .ok (.iadd, 1) := by decide +kernel
theorem dX8_gives_76 : decode cX8_gives 76 = .ok (.istore 4, 2) := by decide +kernel
theorem dX8_gives_78 : decode cX8_gives 78 = .ok (.iload 4, 2) := by decide +kernel
theorem dX8_gives_80 : decode cX8_gives 80 = .ok (.sipush 170, 3) := by decide +kernel
theorem dX8_gives_83 : decode cX8_gives 83 = .ok (.aload_n 0, 1) := by decide +kernel
theorem dX8_gives_84 : decode cX8_gives 84 = .ok (.getfield 238, 3) := by decide +kernel
theorem dX8_gives_87 : decode cX8_gives 87 = .ok (.imul, 1) := by decide +kernel
theorem dX8_gives_88 : decode cX8_gives 88 = .ok (.aload_n 0, 1) := by decide +kernel
theorem dX8_gives_89 : decode cX8_gives 89 = .ok (.getfield 66, 3) := by decide +kernel
theorem dX8_gives_92 : decode cX8_gives 92 = .ok (.iconst 3, 1) := by decide +kernel
theorem dX8_gives_93 : decode cX8_gives 93 = .ok (.aload_n 0, 1) := by decide +kernel
theorem dX8_gives_94 : decode cX8_gives 94 = .ok (.getfield 238, 3) := by decide +kernel
theorem dX8_gives_97 : decode cX8_gives 97 = .ok (.imul, 1) := by decide +kernel
theorem dX8_gives_98 : decode cX8_gives 98 = .ok (.iload_n 1, 1) := by decide +kernel
theorem dX8_gives_99 : decode cX8_gives 99 = .ok (.iadd, 1) := by decide +kernel
theorem dX8_gives_100 : decode cX8_gives 100 = .ok (.iaload, 1) := by decide +kernel
theorem dX8_gives_101 : decode cX8_gives 101 = .ok (.iadd, 1) := by decide +kernel
theorem dX8_gives_102 : decode cX8_gives 102 = .ok (.if_icmp .ge 175, 3) := by decide +kernel
theorem dX8_gives_105 : decode cX8_gives 105 = .ok (.aload_n 0, 1) := by decide +kernel
theorem dX8_gives_106 : decode cX8_gives 106 = .ok (.getfield 60, 3) := by decide +kernel
theorem dX8_gives_109 : decode cX8_gives 109 = .ok (.iload 4, 2) := by decide +kernel
theorem dX8_gives_111 : decode cX8_gives 111 = .ok (.iaload, 1) := by decide +kernel
theorem dX8_gives_112 : decode cX8_gives 112 = .ok (.tableswitch 122 1 4 #[32, 51, 75, 102], 32) := by decide +kernel
theorem dX8_gives_144 : decode cX8_gives 144 = .ok (.aload_n 0, 1) := by decide +kernel
theorem dX8_gives_145 : decode cX8_gives 145 = .ok (.getfield 69, 3) := by decide +kernel
theorem dX8_gives_148 : decode cX8_gives 148 = .ok (.iload_n 2, 1) := by decide +kernel
theorem dX8_gives_149 : decode cX8_gives 149 = .ok (.aload_n 0, 1) := by decide +kernel
theorem dX8_gives_150 : decode cX8_gives 150 = .ok (.getfield 63, 3) := by decide +kernel
theorem dX8_gives_153 : decode cX8_gives 153 = .ok (.iload 4, 2) := by decide +kernel
theorem dX8_gives_155 : decode cX8_gives 155 = .ok (.iaload, 1) := by decide +kernel
theorem dX8_gives_156 : decode cX8_gives 156 = .ok (.iastore, 1) := by decide +kernel
theorem dX8_gives_157 : decode cX8_gives 157 = .ok (.iinc 2 1, 3) := by decide +kernel
theorem dX8_gives_160 : decode cX8_gives 160 = .ok (.goto 111, 3) := by decide +kernel
theorem dX8_gives_163 : decode cX8_gives 163 = .ok (.aload_n 0, 1) := by decide +kernel
theorem dX8_gives_164 : decode cX8_gives 164 = .ok (.getfield 69, 3) := by decide +kernel
theorem dX8_gives_167 : decode cX8_gives 167 = .ok (.iload_n 2, 1) := by decide +kernel
theorem dX8_gives_168 : decode cX8_gives 168 = .ok (.aload_n 0, 1) := by decide +kernel
theorem dX8_gives_169 : decode cX8_gives 169 = .ok (.getfield 72, 3) := by decide +kernel
theorem dX8_gives_172 : decode cX8_gives 172 = .ok (.aload_n 0, 1) := by decide +kernel
theorem dX8_gives_173 : decode cX8_gives 173 = .ok (.getfield 63, 3) := by decide +kernel
theorem dX8_gives_176 : decode cX8_gives 176 = .ok (.iload 4, 2) := by decide +kernel
theorem dX8_gives_178 : decode cX8_gives 178 = .ok (.iaload, 1) := by decide +kernel
theorem dX8_gives_179 : decode cX8_gives 179 = .ok (.iaload, 1) := by decide +kernel
theorem dX8_gives_180 : decode cX8_gives 180 = .ok (.iastore, 1) := by decide +kernel
theorem dX8_gives_181 : decode cX8_gives 181 = .ok (.iinc 2 1, 3) := by decide +kernel
theorem dX8_gives_184 : decode cX8_gives 184 = .ok (.goto 87, 3) := by decide +kernel
theorem dX8_gives_187 : decode cX8_gives 187 = .ok (.aload_n 0, 1) := by decide +kernel
theorem dX8_gives_188 : decode cX8_gives 188 = .ok (.getfield 69, 3) := by decide +kernel
theorem dX8_gives_191 : decode cX8_gives 191 = .ok (.iload_n 2, 1) := by decide +kernel
theorem dX8_gives_192 : decode cX8_gives 192 = .ok (.iconst 1, 1) := by decide +kernel
theorem dX8_gives_193 : decode cX8_gives 193 = .ok (.isub, 1) := by decide +kernel
theorem dX8_gives_194 : decode cX8_gives 194 = .ok (.aload_n 0, 1) := by decide +kernel
theorem dX8_gives_195 : decode cX8_gives 195 = .ok (.getfield 69, 3) := by decide +kernel
theorem dX8_gives_198 : decode cX8_gives 198 = .ok (.iload_n 2, 1) := by decide +kernel
theorem dX8_gives_199 : decode cX8_gives 199 = .ok (.iconst 1, 1) := by decide +kernel
theorem dX8_gives_200 : decode cX8_gives 200 = .ok (.isub, 1) := by decide +kernel
theorem dX8_gives_201 : decode cX8_gives 201 = .ok (.iaload, 1) := by decide +kernel
theorem dX8_gives_202 : decode cX8_gives 202 = .ok (.ifCond .ne 7, 3) := by decide +kernel
theorem dX8_gives_205 : decode cX8_gives 205 = .ok (.iconst 1, 1) := by decide +kernel
theorem dX8_gives_206 : decode cX8_gives 206 = .ok (.goto 4, 3) := by decide +kernel
theorem dX8_gives_209 : decode cX8_gives 209 = .ok (.iconst 0, 1) := by decide +kernel
theorem dX8_gives_210 : decode cX8_gives 210 = .ok (.iastore, 1) := by decide +kernel
theorem dX8_gives_211 : decode cX8_gives 211 = .ok (.goto 60, 3) := by decide +kernel
theorem dX8_gives_214 : decode cX8_gives 214 = .ok (.aload_n 0, 1) := by decide +kernel
theorem dX8_gives_215 : decode cX8_gives 215 = .ok (.getfield 69, 3) := by decide +kernel
theorem dX8_gives_218 : decode cX8_gives 218 = .ok (.iload_n 2, 1) := by decide +kernel
theorem dX8_gives_219 : decode cX8_gives 219 = .ok (.iconst 1, 1) := by decide +kernel
theorem dX8_gives_220 : decode cX8_gives 220 = .ok (.isub, 1) := by decide +kernel
theorem dX8_gives_221 : decode cX8_gives 221 = .ok (.aload_n 0, 1) := by decide +kernel
theorem dX8_gives_222 : decode cX8_gives 222 = .ok (.getfield 69, 3) := by decide +kernel
theorem dX8_gives_225 : decode cX8_gives 225 = .ok (.iload_n 2, 1) := by decide +kernel
theorem dX8_gives_226 : decode cX8_gives 226 = .ok (.iconst 1, 1) := by decide +kernel
theorem dX8_gives_227 : decode cX8_gives 227 = .ok (.isub, 1) := by decide +kernel
theorem dX8_gives_228 : decode cX8_gives 228 = .ok (.iaload, 1) := by decide +kernel
theorem dX8_gives_229 : decode cX8_gives 229 = .ok (.ineg, 1) := by decide +kernel
theorem dX8_gives_230 : decode cX8_gives 230 = .ok (.iastore, 1) := by decide +kernel
theorem dX8_gives_231 : decode cX8_gives 231 = .ok (.goto 40, 3) := by decide +kernel
theorem dX8_gives_234 : decode cX8_gives 234 = .ok (.aload_n 0, 1) := by decide +kernel
theorem dX8_gives_235 : decode cX8_gives 235 = .ok (.getfield 69, 3) := by decide +kernel
theorem dX8_gives_238 : decode cX8_gives 238 = .ok (.iload_n 2, 1) := by decide +kernel
theorem dX8_gives_239 : decode cX8_gives 239 = .ok (.iconst 2, 1) := by decide +kernel
theorem dX8_gives_240 : decode cX8_gives 240 = .ok (.isub, 1) := by decide +kernel
theorem dX8_gives_241 : decode cX8_gives 241 = .ok (.aload_n 0, 1) := by decide +kernel
theorem dX8_gives_242 : decode cX8_gives 242 = .ok (.getfield 60, 3) := by decide +kernel
theorem dX8_gives_245 : decode cX8_gives 245 = .ok (.iload 4, 2) := by decide +kernel
theorem dX8_gives_247 : decode cX8_gives 247 = .ok (.iaload, 1) := by decide +kernel
theorem dX8_gives_248 : decode cX8_gives 248 = .ok (.aload_n 0, 1) := by decide +kernel
theorem dX8_gives_249 : decode cX8_gives 249 = .ok (.getfield 69, 3) := by decide +kernel
theorem dX8_gives_252 : decode cX8_gives 252 = .ok (.iload_n 2, 1) := by decide +kernel
theorem dX8_gives_253 : decode cX8_gives 253 = .ok (.iconst 2, 1) := by decide +kernel
theorem dX8_gives_254 : decode cX8_gives 254 = .ok (.isub, 1) := by decide +kernel
theorem dX8_gives_255 : decode cX8_gives 255 = .ok (.iaload, 1) := by decide +kernel
theorem dX8_gives_256 : decode cX8_gives 256 = .ok (.aload_n 0, 1) := by decide +kernel
theorem dX8_gives_257 : decode cX8_gives 257 = .ok (.getfield 69, 3) := by decide +kernel
theorem dX8_gives_260 : decode cX8_gives 260 = .ok (.iload_n 2, 1) := by decide +kernel
theorem dX8_gives_261 : decode cX8_gives 261 = .ok (.iconst 1, 1) := by decide +kernel
theorem dX8_gives_262 : decode cX8_gives 262 = .ok (.isub, 1) := by decide +kernel
theorem dX8_gives_263 : decode cX8_gives 263 = .ok (.iaload, 1) := by decide +kernel
theorem dX8_gives_264 : decode cX8_gives 264 = .ok (.invokestatic 241, 3) := by decide +kernel
theorem dX8_gives_267 : decode cX8_gives 267 = .ok (.iastore, 1) := by decide +kernel
theorem dX8_gives_268 : decode cX8_gives 268 = .ok (.iinc 2 (-1), 3) := by decide +kernel
theorem dX8_gives_271 : decode cX8_gives 271 = .ok (.iinc 4 1, 3) := by decide +kernel
theorem dX8_gives_274 : decode cX8_gives 274 = .ok (.goto (-196), 3) := by decide +kernel
theorem dX8_gives_277 : decode cX8_gives 277 = .ok (.aload_n 0, 1) := by decide +kernel
theorem dX8_gives_278 : decode cX8_gives 278 = .ok (.getfield 69, 3) := by decide +kernel
theorem dX8_gives_281 : decode cX8_gives 281 = .ok (.iconst 0, 1) := by decide +kernel
theorem dX8_gives_282 : decode cX8_gives 282 = .ok (.iaload, 1) := by decide +kernel
theorem dX8_gives_283 : decode cX8_gives 283 = .ok (.ireturn, 1) := by decide +kernel
theorem dX8_waitingNow_0 : decode cX8_waitingNow 0 = .ok (.iconst 0, 1) := by decide +kernel
theorem dX8_waitingNow_1 : decode cX8_waitingNow 1 = .ok (.istore_n 1, 1) := by decide +kernel
theorem dX8_waitingNow_2 : decode cX8_waitingNow 2 = .ok (.iconst 0, 1) := by decide +kernel
theorem dX8_waitingNow_3 : decode cX8_waitingNow 3 = .ok (.istore_n 2, 1) := by decide +kernel
theorem dX8_waitingNow_4 : decode cX8_waitingNow 4 = .ok (.iload_n 2, 1) := by decide +kernel
theorem dX8_waitingNow_5 : decode cX8_waitingNow 5 = .ok (.bipush 120, 2) := by decide +kernel
theorem dX8_waitingNow_7 : decode cX8_waitingNow 7 = .ok (.aload_n 0, 1) := by decide +kernel
theorem dX8_waitingNow_8 : decode cX8_waitingNow 8 = .ok (.getfield 129, 3) := by decide +kernel
theorem dX8_waitingNow_11 : decode cX8_waitingNow 11 = .ok (.imul, 1) := by decide +kernel
theorem dX8_waitingNow_12 : decode cX8_waitingNow 12 = .ok (.if_icmp .ge 18, 3) := by decide +kernel
theorem dX8_waitingNow_15 : decode cX8_waitingNow 15 = .ok (.iload_n 1, 1) := by decide +kernel
theorem dX8_waitingNow_16 : decode cX8_waitingNow 16 = .ok (.aload_n 0, 1) := by decide +kernel
theorem dX8_waitingNow_17 : decode cX8_waitingNow 17 = .ok (.getfield 87, 3) := by decide +kernel
theorem dX8_waitingNow_20 : decode cX8_waitingNow 20 = .ok (.iload_n 2, 1) := by decide +kernel
theorem dX8_waitingNow_21 : decode cX8_waitingNow 21 = .ok (.iaload, 1) := by decide +kernel
theorem dX8_waitingNow_22 : decode cX8_waitingNow 22 = .ok (.iadd, 1) := by decide +kernel
theorem dX8_waitingNow_23 : decode cX8_waitingNow 23 = .ok (.istore_n 1, 1) := by decide +kernel
theorem dX8_waitingNow_24 : decode cX8_waitingNow 24 = .ok (.iinc 2 1, 3) := by decide +kernel
theorem dX8_waitingNow_27 : decode cX8_waitingNow 27 = .ok (.goto (-23), 3) := by decide +kernel
theorem dX8_waitingNow_30 : decode cX8_waitingNow 30 = .ok (.iload_n 1, 1) := by decide +kernel
theorem dX8_waitingNow_31 : decode cX8_waitingNow 31 = .ok (.ireturn, 1) := by decide +kernel
theorem dX8_findFacts_0 : decode cX8_findFacts 0 = .ok (.aload_n 0, 1) := by decide +kernel
theorem dX8_findFacts_1 : decode cX8_findFacts 1 = .ok (.getfield 72, 3) := by decide +kernel
theorem dX8_findFacts_4 : decode cX8_findFacts 4 = .ok (.iconst 0, 1) := by decide +kernel
theorem dX8_findFacts_5 : decode cX8_findFacts 5 = .ok (.aload_n 0, 1) := by decide +kernel
theorem dX8_findFacts_6 : decode cX8_findFacts 6 = .ok (.getfield 129, 3) := by decide +kernel
theorem dX8_findFacts_9 : decode cX8_findFacts 9 = .ok (.ifCond .ne 7, 3) := by decide +kernel
theorem dX8_findFacts_12 : decode cX8_findFacts 12 = .ok (.iconst 0, 1) := by decide +kernel
theorem dX8_findFacts_13 : decode cX8_findFacts 13 = .ok (.goto 9, 3) := by decide +kernel
theorem dX8_findFacts_16 : decode cX8_findFacts 16 = .ok (.aload_n 0, 1) := by decide +kernel
theorem dX8_findFacts_17 : decode cX8_findFacts 17 = .ok (.getfield 81, 3) := by decide +kernel
theorem dX8_findFacts_20 : decode cX8_findFacts 20 = .ok (.iload_n 2, 1) := by decide +kernel
theorem dX8_findFacts_21 : decode cX8_findFacts 21 = .ok (.iaload, 1) := by decide +kernel
theorem dX8_findFacts_22 : decode cX8_findFacts 22 = .ok (.iastore, 1) := by decide +kernel
theorem dX8_findFacts_23 : decode cX8_findFacts 23 = .ok (.aload_n 0, 1) := by decide +kernel
theorem dX8_findFacts_24 : decode cX8_findFacts 24 = .ok (.getfield 72, 3) := by decide +kernel
theorem dX8_findFacts_27 : decode cX8_findFacts 27 = .ok (.iconst 1, 1) := by decide +kernel
theorem dX8_findFacts_28 : decode cX8_findFacts 28 = .ok (.iload 4, 2) := by decide +kernel
theorem dX8_findFacts_30 : decode cX8_findFacts 30 = .ok (.iastore, 1) := by decide +kernel
theorem dX8_findFacts_31 : decode cX8_findFacts 31 = .ok (.aload_n 0, 1) := by decide +kernel
theorem dX8_findFacts_32 : decode cX8_findFacts 32 = .ok (.getfield 72, 3) := by decide +kernel
theorem dX8_findFacts_35 : decode cX8_findFacts 35 = .ok (.iconst 2, 1) := by decide +kernel
theorem dX8_findFacts_36 : decode cX8_findFacts 36 = .ok (.iload 5, 2) := by decide +kernel
theorem dX8_findFacts_38 : decode cX8_findFacts 38 = .ok (.iastore, 1) := by decide +kernel
theorem dX8_findFacts_39 : decode cX8_findFacts 39 = .ok (.aload_n 0, 1) := by decide +kernel
theorem dX8_findFacts_40 : decode cX8_findFacts 40 = .ok (.getfield 72, 3) := by decide +kernel
theorem dX8_findFacts_43 : decode cX8_findFacts 43 = .ok (.iconst 3, 1) := by decide +kernel
theorem dX8_findFacts_44 : decode cX8_findFacts 44 = .ok (.aload_n 0, 1) := by decide +kernel
theorem dX8_findFacts_45 : decode cX8_findFacts 45 = .ok (.iload_n 1, 1) := by decide +kernel
theorem dX8_findFacts_46 : decode cX8_findFacts 46 = .ok (.iload_n 3, 1) := by decide +kernel
theorem dX8_findFacts_47 : decode cX8_findFacts 47 = .ok (.invokevirtual 159, 3) := by decide +kernel
theorem dX8_findFacts_50 : decode cX8_findFacts 50 = .ok (.iastore, 1) := by decide +kernel
theorem dX8_findFacts_51 : decode cX8_findFacts 51 = .ok (.aload_n 0, 1) := by decide +kernel
theorem dX8_findFacts_52 : decode cX8_findFacts 52 = .ok (.getfield 72, 3) := by decide +kernel
theorem dX8_findFacts_55 : decode cX8_findFacts 55 = .ok (.iconst 4, 1) := by decide +kernel
theorem dX8_findFacts_56 : decode cX8_findFacts 56 = .ok (.aload_n 0, 1) := by decide +kernel
theorem dX8_findFacts_57 : decode cX8_findFacts 57 = .ok (.getfield 129, 3) := by decide +kernel
theorem dX8_findFacts_60 : decode cX8_findFacts 60 = .ok (.ifCond .ne 7, 3) := by decide +kernel
theorem dX8_findFacts_63 : decode cX8_findFacts 63 = .ok (.iconst 0, 1) := by decide +kernel
theorem dX8_findFacts_64 : decode cX8_findFacts 64 = .ok (.goto 19, 3) := by decide +kernel
theorem dX8_findFacts_67 : decode cX8_findFacts 67 = .ok (.aload_n 0, 1) := by decide +kernel
theorem dX8_findFacts_68 : decode cX8_findFacts 68 = .ok (.getfield 19, 3) := by decide +kernel
theorem dX8_findFacts_71 : decode cX8_findFacts 71 = .ok (.iload_n 2, 1) := by decide +kernel
theorem dX8_findFacts_72 : decode cX8_findFacts 72 = .ok (.iaload, 1) := by decide +kernel
theorem dX8_findFacts_73 : decode cX8_findFacts 73 = .ok (.aload_n 0, 1) := by decide +kernel
theorem dX8_findFacts_74 : decode cX8_findFacts 74 = .ok (.iload_n 1, 1) := by decide +kernel
theorem dX8_findFacts_75 : decode cX8_findFacts 75 = .ok (.iload_n 3, 1) := by decide +kernel
theorem dX8_findFacts_76 : decode cX8_findFacts 76 = .ok (.invokevirtual 155, 3) := by decide +kernel
theorem dX8_findFacts_79 : decode cX8_findFacts 79 = .ok (.imul, 1) := by decide +kernel
theorem dX8_findFacts_80 : decode cX8_findFacts 80 = .ok (.bipush 10, 2) := by decide +kernel
theorem dX8_findFacts_82 : decode cX8_findFacts 82 = .ok (.idiv, 1) := by decide +kernel
theorem dX8_findFacts_83 : decode cX8_findFacts 83 = .ok (.iastore, 1) := by decide +kernel
theorem dX8_findFacts_84 : decode cX8_findFacts 84 = .ok (.aload_n 0, 1) := by decide +kernel
theorem dX8_findFacts_85 : decode cX8_findFacts 85 = .ok (.getfield 72, 3) := by decide +kernel
theorem dX8_findFacts_88 : decode cX8_findFacts 88 = .ok (.iconst 5, 1) := by decide +kernel
theorem dX8_findFacts_89 : decode cX8_findFacts 89 = .ok (.aload_n 0, 1) := by decide +kernel
theorem dX8_findFacts_90 : decode cX8_findFacts 90 = .ok (.getfield 40, 3) := by decide +kernel
theorem dX8_findFacts_93 : decode cX8_findFacts 93 = .ok (.iload_n 3, 1) := by decide +kernel
theorem dX8_findFacts_94 : decode cX8_findFacts 94 = .ok (.iaload, 1) := by decide +kernel
theorem dX8_findFacts_95 : decode cX8_findFacts 95 = .ok (.iastore, 1) := by decide +kernel
theorem dX8_findFacts_96 : decode cX8_findFacts 96 = .ok (.return_, 1) := by decide +kernel
theorem dX8_goes_0 : decode cX8_goes 0 = .ok (.iload_n 2, 1) := by decide +kernel
theorem dX8_goes_1 : decode cX8_goes 1 = .ok (.aload_n 0, 1) := by decide +kernel
theorem dX8_goes_2 : decode cX8_goes 2 = .ok (.getfield 28, 3) := by decide +kernel
theorem dX8_goes_5 : decode cX8_goes 5 = .ok (.iload_n 1, 1) := by decide +kernel
theorem dX8_goes_6 : decode cX8_goes 6 = .ok (.iaload, 1) := by decide +kernel
theorem dX8_goes_7 : decode cX8_goes 7 = .ok (.if_icmp .lt 33, 3) := by decide +kernel
theorem dX8_goes_10 : decode cX8_goes 10 = .ok (.iload_n 2, 1) := by decide +kernel
theorem dX8_goes_11 : decode cX8_goes 11 = .ok (.aload_n 0, 1) := by decide +kernel
theorem dX8_goes_12 : decode cX8_goes 12 = .ok (.getfield 28, 3) := by decide +kernel
theorem dX8_goes_15 : decode cX8_goes 15 = .ok (.iload_n 1, 1) := by decide +kernel
theorem dX8_goes_16 : decode cX8_goes 16 = .ok (.iaload, 1) := by decide +kernel
theorem dX8_goes_17 : decode cX8_goes 17 = .ok (.isub, 1) := by decide +kernel
theorem dX8_goes_18 : decode cX8_goes 18 = .ok (.aload_n 0, 1) := by decide +kernel
theorem dX8_goes_19 : decode cX8_goes 19 = .ok (.getfield 25, 3) := by decide +kernel
theorem dX8_goes_22 : decode cX8_goes 22 = .ok (.iload_n 1, 1) := by decide +kernel
theorem dX8_goes_23 : decode cX8_goes 23 = .ok (.iaload, 1) := by decide +kernel
theorem dX8_goes_24 : decode cX8_goes 24 = .ok (.irem, 1) := by decide +kernel
theorem dX8_goes_25 : decode cX8_goes 25 = .ok (.ifCond .ne 15, 3) := by decide +kernel
theorem dX8_goes_28 : decode cX8_goes 28 = .ok (.aload_n 0, 1) := by decide +kernel
theorem dX8_goes_29 : decode cX8_goes 29 = .ok (.iload_n 2, 1) := by decide +kernel
theorem dX8_goes_30 : decode cX8_goes 30 = .ok (.invokevirtual 245, 3) := by decide +kernel
theorem dX8_goes_33 : decode cX8_goes 33 = .ok (.ifCond .ne 7, 3) := by decide +kernel
theorem dX8_goes_36 : decode cX8_goes 36 = .ok (.iconst 1, 1) := by decide +kernel
theorem dX8_goes_37 : decode cX8_goes 37 = .ok (.goto 4, 3) := by decide +kernel
theorem dX8_goes_40 : decode cX8_goes 40 = .ok (.iconst 0, 1) := by decide +kernel
theorem dX8_goes_41 : decode cX8_goes 41 = .ok (.ireturn, 1) := by decide +kernel
theorem dX8_isAhead_0 : decode cX8_isAhead 0 = .ok (.iload_n 1, 1) := by decide +kernel
theorem dX8_isAhead_1 : decode cX8_isAhead 1 = .ok (.iconst 1, 1) := by decide +kernel
theorem dX8_isAhead_2 : decode cX8_isAhead 2 = .ok (.if_icmp .ne 41, 3) := by decide +kernel
theorem dX8_isAhead_5 : decode cX8_isAhead 5 = .ok (.aload_n 0, 1) := by decide +kernel
theorem dX8_isAhead_6 : decode cX8_isAhead 6 = .ok (.getfield 13, 3) := by decide +kernel
theorem dX8_isAhead_9 : decode cX8_isAhead 9 = .ok (.iload_n 2, 1) := by decide +kernel
theorem dX8_isAhead_10 : decode cX8_isAhead 10 = .ok (.iaload, 1) := by decide +kernel
theorem dX8_isAhead_11 : decode cX8_isAhead 11 = .ok (.aload_n 0, 1) := by decide +kernel
theorem dX8_isAhead_12 : decode cX8_isAhead 12 = .ok (.getfield 13, 3) := by decide +kernel
theorem dX8_isAhead_15 : decode cX8_isAhead 15 = .ok (.iload 4, 2) := by decide +kernel
theorem dX8_isAhead_17 : decode cX8_isAhead 17 = .ok (.iaload, 1) := by decide +kernel
theorem dX8_isAhead_18 : decode cX8_isAhead 18 = .ok (.if_icmp .eq 25, 3) := by decide +kernel
theorem dX8_isAhead_21 : decode cX8_isAhead 21 = .ok (.aload_n 0, 1) := by decide +kernel
theorem dX8_isAhead_22 : decode cX8_isAhead 22 = .ok (.getfield 13, 3) := by decide +kernel
theorem dX8_isAhead_25 : decode cX8_isAhead 25 = .ok (.iload_n 2, 1) := by decide +kernel
theorem dX8_isAhead_26 : decode cX8_isAhead 26 = .ok (.iaload, 1) := by decide +kernel
theorem dX8_isAhead_27 : decode cX8_isAhead 27 = .ok (.aload_n 0, 1) := by decide +kernel
theorem dX8_isAhead_28 : decode cX8_isAhead 28 = .ok (.getfield 13, 3) := by decide +kernel
theorem dX8_isAhead_31 : decode cX8_isAhead 31 = .ok (.iload 4, 2) := by decide +kernel
theorem dX8_isAhead_33 : decode cX8_isAhead 33 = .ok (.iaload, 1) := by decide +kernel
theorem dX8_isAhead_34 : decode cX8_isAhead 34 = .ok (.if_icmp .le 7, 3) := by decide +kernel
theorem dX8_isAhead_37 : decode cX8_isAhead 37 = .ok (.iconst 1, 1) := by decide +kernel
theorem dX8_isAhead_38 : decode cX8_isAhead 38 = .ok (.goto 4, 3) := by decide +kernel
theorem dX8_isAhead_41 : decode cX8_isAhead 41 = .ok (.iconst 0, 1) := by decide +kernel
theorem dX8_isAhead_42 : decode cX8_isAhead 42 = .ok (.ireturn, 1) := by decide +kernel
theorem dX8_isAhead_43 : decode cX8_isAhead 43 = .ok (.iload_n 1, 1) := by decide +kernel
theorem dX8_isAhead_44 : decode cX8_isAhead 44 = .ok (.iconst 2, 1) := by decide +kernel
theorem dX8_isAhead_45 : decode cX8_isAhead 45 = .ok (.if_icmp .ne 21, 3) := by decide +kernel
theorem dX8_isAhead_48 : decode cX8_isAhead 48 = .ok (.iload_n 2, 1) := by decide +kernel
theorem dX8_isAhead_49 : decode cX8_isAhead 49 = .ok (.iload 4, 2) := by decide +kernel
theorem dX8_isAhead_51 : decode cX8_isAhead 51 = .ok (.if_icmp .eq 15, 3) := by decide +kernel
theorem dX8_isAhead_54 : decode cX8_isAhead 54 = .ok (.iload_n 2, 1) := by decide +kernel
theorem dX8_isAhead_55 : decode cX8_isAhead 55 = .ok (.iload 4, 2) := by decide +kernel
theorem dX8_isAhead_57 : decode cX8_isAhead 57 = .ok (.if_icmp .ge 7, 3) := by decide +kernel
theorem dX8_isAhead_60 : decode cX8_isAhead 60 = .ok (.iconst 1, 1) := by decide +kernel
theorem dX8_isAhead_61 : decode cX8_isAhead 61 = .ok (.goto 4, 3) := by decide +kernel
theorem dX8_isAhead_64 : decode cX8_isAhead 64 = .ok (.iconst 0, 1) := by decide +kernel
theorem dX8_isAhead_65 : decode cX8_isAhead 65 = .ok (.ireturn, 1) := by decide +kernel
theorem dX8_isAhead_66 : decode cX8_isAhead 66 = .ok (.iload_n 3, 1) := by decide +kernel
theorem dX8_isAhead_67 : decode cX8_isAhead 67 = .ok (.iload 5, 2) := by decide +kernel
theorem dX8_isAhead_69 : decode cX8_isAhead 69 = .ok (.if_icmp .eq 17, 3) := by decide +kernel
theorem dX8_isAhead_72 : decode cX8_isAhead 72 = .ok (.iload_n 3, 1) := by decide +kernel
theorem dX8_isAhead_73 : decode cX8_isAhead 73 = .ok (.iload 5, 2) := by decide +kernel
theorem dX8_isAhead_75 : decode cX8_isAhead 75 = .ok (.if_icmp .ge 7, 3) := by decide +kernel
theorem dX8_isAhead_78 : decode cX8_isAhead 78 = .ok (.iconst 1, 1) := by decide +kernel
theorem dX8_isAhead_79 : decode cX8_isAhead 79 = .ok (.goto 18, 3) := by decide +kernel
theorem dX8_isAhead_82 : decode cX8_isAhead 82 = .ok (.iconst 0, 1) := by decide +kernel
theorem dX8_isAhead_83 : decode cX8_isAhead 83 = .ok (.goto 14, 3) := by decide +kernel
theorem dX8_isAhead_86 : decode cX8_isAhead 86 = .ok (.iload_n 2, 1) := by decide +kernel
theorem dX8_isAhead_87 : decode cX8_isAhead 87 = .ok (.iload 4, 2) := by decide +kernel
theorem dX8_isAhead_89 : decode cX8_isAhead 89 = .ok (.if_icmp .ge 7, 3) := by decide +kernel
theorem dX8_isAhead_92 : decode cX8_isAhead 92 = .ok (.iconst 1, 1) := by decide +kernel
theorem dX8_isAhead_93 : decode cX8_isAhead 93 = .ok (.goto 4, 3) := by decide +kernel
theorem dX8_isAhead_96 : decode cX8_isAhead 96 = .ok (.iconst 0, 1) := by decide +kernel
theorem dX8_isAhead_97 : decode cX8_isAhead 97 = .ok (.ireturn, 1) := by decide +kernel
theorem dX8_load_0 : decode cX8_load 0 = .ok (.iload_n 2, 1) := by decide +kernel
theorem dX8_load_1 : decode cX8_load 1 = .ok (.istore 5, 2) := by decide +kernel
theorem dX8_load_3 : decode cX8_load 3 = .ok (.iload 5, 2) := by decide +kernel
theorem dX8_load_5 : decode cX8_load 5 = .ok (.ifCond .le 154, 3) := by decide +kernel
theorem dX8_load_8 : decode cX8_load 8 = .ok (.iconst (-1), 1) := by decide +kernel
theorem dX8_load_9 : decode cX8_load 9 = .ok (.istore 6, 2) := by decide +kernel
theorem dX8_load_11 : decode cX8_load 11 = .ok (.iconst 0, 1) := by decide +kernel
theorem dX8_load_12 : decode cX8_load 12 = .ok (.istore 7, 2) := by decide +kernel
theorem dX8_load_14 : decode cX8_load 14 = .ok (.iload 7, 2) := by decide +kernel
theorem dX8_load_16 : decode cX8_load 16 = .ok (.bipush 120, 2) := by decide +kernel
theorem dX8_load_18 : decode cX8_load 18 = .ok (.aload_n 0, 1) := by decide +kernel
theorem dX8_load_19 : decode cX8_load 19 = .ok (.getfield 129, 3) := by decide +kernel
theorem dX8_load_22 : decode cX8_load 22 = .ok (.imul, 1) := by decide +kernel
theorem dX8_load_23 : decode cX8_load 23 = .ok (.if_icmp .ge 56, 3) := by decide +kernel
theorem dX8_load_26 : decode cX8_load 26 = .ok (.aload_n 0, 1) := by decide +kernel
theorem dX8_load_27 : decode cX8_load 27 = .ok (.getfield 87, 3) := by decide +kernel
theorem dX8_load_30 : decode cX8_load 30 = .ok (.iload 7, 2) := by decide +kernel
theorem dX8_load_32 : decode cX8_load 32 = .ok (.iaload, 1) := by decide +kernel
theorem dX8_load_33 : decode cX8_load 33 = .ok (.ifCond .le 40, 3) := by decide +kernel
theorem dX8_load_36 : decode cX8_load 36 = .ok (.iload 6, 2) := by decide +kernel
theorem dX8_load_38 : decode cX8_load 38 = .ok (.ifCond .lt 31, 3) := by decide +kernel
theorem dX8_load_41 : decode cX8_load 41 = .ok (.aload_n 0, 1) := by decide +kernel
theorem dX8_load_42 : decode cX8_load 42 = .ok (.iload_n 3, 1) := by decide +kernel
theorem dX8_load_43 : decode cX8_load 43 = .ok (.iload 7, 2) := by decide +kernel
theorem dX8_load_45 : decode cX8_load 45 = .ok (.bipush 120, 2) := by decide +kernel
theorem dX8_load_47 : decode cX8_load 47 = .ok (.idiv, 1) := by decide +kernel
theorem dX8_load_48 : decode cX8_load 48 = .ok (.iload 7, 2) := by decide +kernel
theorem dX8_load_50 : decode cX8_load 50 = .ok (.bipush 120, 2) := by decide +kernel
theorem dX8_load_52 : decode cX8_load 52 = .ok (.irem, 1) := by decide +kernel
theorem dX8_load_53 : decode cX8_load 53 = .ok (.iload 6, 2) := by decide +kernel
theorem dX8_load_55 : decode cX8_load 55 = .ok (.bipush 120, 2) := by decide +kernel
theorem dX8_load_57 : decode cX8_load 57 = .ok (.idiv, 1) := by decide +kernel
theorem dX8_load_58 : decode cX8_load 58 = .ok (.iload 6, 2) := by decide +kernel
theorem dX8_load_60 : decode cX8_load 60 = .ok (.bipush 120, 2) := by decide +kernel
theorem dX8_load_62 : decode cX8_load 62 = .ok (.irem, 1) := by decide +kernel
theorem dX8_load_63 : decode cX8_load 63 = .ok (.invokevirtual 248, 3) := by decide +kernel
theorem dX8_load_66 : decode cX8_load 66 = .ok (.ifCond .eq 7, 3) := by decide +kernel
theorem dX8_load_69 : decode cX8_load 69 = .ok (.iload 7, 2) := by decide +kernel
theorem dX8_load_71 : decode cX8_load 71 = .ok (.istore 6, 2) := by decide +kernel
theorem dX8_load_73 : decode cX8_load 73 = .ok (.iinc 7 1, 3) := by decide +kernel
theorem dX8_load_76 : decode cX8_load 76 = .ok (.goto (-62), 3) := by decide +kernel
theorem dX8_load_79 : decode cX8_load 79 = .ok (.iload 6, 2) := by decide +kernel
theorem dX8_load_81 : decode cX8_load 81 = .ok (.ifCond .ge 4, 3) := by decide +kernel
theorem dX8_load_84 : decode cX8_load 84 = .ok (.return_, 1) := by decide +kernel
theorem dX8_load_85 : decode cX8_load 85 = .ok (.aload_n 0, 1) := by decide +kernel
theorem dX8_load_86 : decode cX8_load 86 = .ok (.getfield 87, 3) := by decide +kernel
theorem dX8_load_89 : decode cX8_load 89 = .ok (.iload 6, 2) := by decide +kernel
theorem dX8_load_91 : decode cX8_load 91 = .ok (.iaload, 1) := by decide +kernel
theorem dX8_load_92 : decode cX8_load 92 = .ok (.iload 5, 2) := by decide +kernel
theorem dX8_load_94 : decode cX8_load 94 = .ok (.if_icmp .ge 13, 3) := by decide +kernel
theorem dX8_load_97 : decode cX8_load 97 = .ok (.aload_n 0, 1) := by decide +kernel
theorem dX8_load_98 : decode cX8_load 98 = .ok (.getfield 87, 3) := by decide +kernel
theorem dX8_load_101 : decode cX8_load 101 = .ok (.iload 6, 2) := by decide +kernel
theorem dX8_load_103 : decode cX8_load 103 = .ok (.iaload, 1) := by decide +kernel
theorem dX8_load_104 : decode cX8_load 104 = .ok (.goto 5, 3) := by decide +kernel
theorem dX8_load_107 : decode cX8_load 107 = .ok (.iload 5, 2) := by decide +kernel
theorem dX8_load_109 : decode cX8_load 109 = .ok (.istore 7, 2) := by decide +kernel
theorem dX8_load_111 : decode cX8_load 111 = .ok (.aload_n 0, 1) := by decide +kernel
theorem dX8_load_112 : decode cX8_load 112 = .ok (.getfield 87, 3) := by decide +kernel
theorem dX8_load_115 : decode cX8_load 115 = .ok (.iload 6, 2) := by decide +kernel
theorem dX8_load_117 : decode cX8_load 117 = .ok (.dup2, 1) := by decide +kernel
theorem dX8_load_118 : decode cX8_load 118 = .ok (.iaload, 1) := by decide +kernel
theorem dX8_load_119 : decode cX8_load 119 = .ok (.iload 7, 2) := by decide +kernel
theorem dX8_load_121 : decode cX8_load 121 = .ok (.isub, 1) := by decide +kernel
theorem dX8_load_122 : decode cX8_load 122 = .ok (.iastore, 1) := by decide +kernel
theorem dX8_load_123 : decode cX8_load 123 = .ok (.aload_n 0, 1) := by decide +kernel
theorem dX8_load_124 : decode cX8_load 124 = .ok (.getfield 96, 3) := by decide +kernel
theorem dX8_load_127 : decode cX8_load 127 = .ok (.iload 6, 2) := by decide +kernel
theorem dX8_load_129 : decode cX8_load 129 = .ok (.bipush 120, 2) := by decide +kernel
theorem dX8_load_131 : decode cX8_load 131 = .ok (.idiv, 1) := by decide +kernel
theorem dX8_load_132 : decode cX8_load 132 = .ok (.dup2, 1) := by decide +kernel
theorem dX8_load_133 : decode cX8_load 133 = .ok (.iaload, 1) := by decide +kernel
theorem dX8_load_134 : decode cX8_load 134 = .ok (.iload 7, 2) := by decide +kernel
theorem dX8_load_136 : decode cX8_load 136 = .ok (.iadd, 1) := by decide +kernel
theorem dX8_load_137 : decode cX8_load 137 = .ok (.iastore, 1) := by decide +kernel
theorem dX8_load_138 : decode cX8_load 138 = .ok (.aload_n 0, 1) := by decide +kernel
theorem dX8_load_139 : decode cX8_load 139 = .ok (.getfield 90, 3) := by decide +kernel
theorem dX8_load_142 : decode cX8_load 142 = .ok (.iload_n 1, 1) := by decide +kernel
theorem dX8_load_143 : decode cX8_load 143 = .ok (.dup2, 1) := by decide +kernel
theorem dX8_load_144 : decode cX8_load 144 = .ok (.iaload, 1) := by decide +kernel
theorem dX8_load_145 : decode cX8_load 145 = .ok (.iload 7, 2) := by decide +kernel
theorem dX8_load_147 : decode cX8_load 147 = .ok (.iadd, 1) := by decide +kernel
theorem dX8_load_148 : decode cX8_load 148 = .ok (.iastore, 1) := by decide +kernel
theorem dX8_load_149 : decode cX8_load 149 = .ok (.iload 5, 2) := by decide +kernel
theorem dX8_load_151 : decode cX8_load 151 = .ok (.iload 7, 2) := by decide +kernel
theorem dX8_load_153 : decode cX8_load 153 = .ok (.isub, 1) := by decide +kernel
theorem dX8_load_154 : decode cX8_load 154 = .ok (.istore 5, 2) := by decide +kernel
theorem dX8_load_156 : decode cX8_load 156 = .ok (.goto (-153), 3) := by decide +kernel
theorem dX8_load_159 : decode cX8_load 159 = .ok (.return_, 1) := by decide +kernel
theorem dX8_goMinute_0 : decode cX8_goMinute 0 = .ok (.aload_n 0, 1) := by decide +kernel
theorem dX8_goMinute_1 : decode cX8_goMinute 1 = .ok (.invokevirtual 252, 3) := by decide +kernel
theorem dX8_goMinute_4 : decode cX8_goMinute 4 = .ok (.istore_n 3, 1) := by decide +kernel
theorem dX8_goMinute_5 : decode cX8_goMinute 5 = .ok (.iconst 0, 1) := by decide +kernel
theorem dX8_goMinute_6 : decode cX8_goMinute 6 = .ok (.istore 4, 2) := by decide +kernel
theorem dX8_goMinute_8 : decode cX8_goMinute 8 = .ok (.iload 4, 2) := by decide +kernel
theorem dX8_goMinute_10 : decode cX8_goMinute 10 = .ok (.aload_n 0, 1) := by decide +kernel
theorem dX8_goMinute_11 : decode cX8_goMinute 11 = .ok (.getfield 129, 3) := by decide +kernel
theorem dX8_goMinute_14 : decode cX8_goMinute 14 = .ok (.if_icmp .ge 104, 3) := by decide +kernel
theorem dX8_goMinute_17 : decode cX8_goMinute 17 = .ok (.aload_n 0, 1) := by decide +kernel
theorem dX8_goMinute_18 : decode cX8_goMinute 18 = .ok (.iload_n 1, 1) := by decide +kernel
theorem dX8_goMinute_19 : decode cX8_goMinute 19 = .ok (.iload 4, 2) := by decide +kernel
theorem dX8_goMinute_21 : decode cX8_goMinute 21 = .ok (.iload_n 2, 1) := by decide +kernel
theorem dX8_goMinute_22 : decode cX8_goMinute 22 = .ok (.iload_n 3, 1) := by decide +kernel
theorem dX8_goMinute_23 : decode cX8_goMinute 23 = .ok (.aload_n 0, 1) := by decide +kernel
theorem dX8_goMinute_24 : decode cX8_goMinute 24 = .ok (.getfield 43, 3) := by decide +kernel
theorem dX8_goMinute_27 : decode cX8_goMinute 27 = .ok (.iload_n 2, 1) := by decide +kernel
theorem dX8_goMinute_28 : decode cX8_goMinute 28 = .ok (.isub, 1) := by decide +kernel
theorem dX8_goMinute_29 : decode cX8_goMinute 29 = .ok (.invokevirtual 255, 3) := by decide +kernel
theorem dX8_goMinute_32 : decode cX8_goMinute 32 = .ok (.aload_n 0, 1) := by decide +kernel
theorem dX8_goMinute_33 : decode cX8_goMinute 33 = .ok (.getfield 81, 3) := by decide +kernel
theorem dX8_goMinute_36 : decode cX8_goMinute 36 = .ok (.iload 4, 2) := by decide +kernel
theorem dX8_goMinute_38 : decode cX8_goMinute 38 = .ok (.iaload, 1) := by decide +kernel
theorem dX8_goMinute_39 : decode cX8_goMinute 39 = .ok (.aload_n 0, 1) := by decide +kernel
theorem dX8_goMinute_40 : decode cX8_goMinute 40 = .ok (.getfield 16, 3) := by decide +kernel
theorem dX8_goMinute_43 : decode cX8_goMinute 43 = .ok (.iload 4, 2) := by decide +kernel
theorem dX8_goMinute_45 : decode cX8_goMinute 45 = .ok (.iaload, 1) := by decide +kernel
theorem dX8_goMinute_46 : decode cX8_goMinute 46 = .ok (.idiv, 1) := by decide +kernel
theorem dX8_goMinute_47 : decode cX8_goMinute 47 = .ok (.aload_n 0, 1) := by decide +kernel
theorem dX8_goMinute_48 : decode cX8_goMinute 48 = .ok (.iconst 0, 1) := by decide +kernel
theorem dX8_goMinute_49 : decode cX8_goMinute 49 = .ok (.invokevirtual 259, 3) := by decide +kernel
theorem dX8_goMinute_52 : decode cX8_goMinute 52 = .ok (.bipush (-99), 2) := by decide +kernel
theorem dX8_goMinute_54 : decode cX8_goMinute 54 = .ok (.sipush 400, 3) := by decide +kernel
theorem dX8_goMinute_57 : decode cX8_goMinute 57 = .ok (.invokestatic 263, 3) := by decide +kernel
theorem dX8_goMinute_60 : decode cX8_goMinute 60 = .ok (.iadd, 1) := by decide +kernel
theorem dX8_goMinute_61 : decode cX8_goMinute 61 = .ok (.iconst 0, 1) := by decide +kernel
theorem dX8_goMinute_62 : decode cX8_goMinute 62 = .ok (.aload_n 0, 1) := by decide +kernel
theorem dX8_goMinute_63 : decode cX8_goMinute 63 = .ok (.getfield 81, 3) := by decide +kernel
theorem dX8_goMinute_66 : decode cX8_goMinute 66 = .ok (.iload 4, 2) := by decide +kernel
theorem dX8_goMinute_68 : decode cX8_goMinute 68 = .ok (.iaload, 1) := by decide +kernel
theorem dX8_goMinute_69 : decode cX8_goMinute 69 = .ok (.invokestatic 263, 3) := by decide +kernel
theorem dX8_goMinute_72 : decode cX8_goMinute 72 = .ok (.istore 5, 2) := by decide +kernel
theorem dX8_goMinute_74 : decode cX8_goMinute 74 = .ok (.aload_n 0, 1) := by decide +kernel
theorem dX8_goMinute_75 : decode cX8_goMinute 75 = .ok (.getfield 81, 3) := by decide +kernel
theorem dX8_goMinute_78 : decode cX8_goMinute 78 = .ok (.iload 4, 2) := by decide +kernel
theorem dX8_goMinute_80 : decode cX8_goMinute 80 = .ok (.dup2, 1) := by decide +kernel
theorem dX8_goMinute_81 : decode cX8_goMinute 81 = .ok (.iaload, 1) := by decide +kernel
theorem dX8_goMinute_82 : decode cX8_goMinute 82 = .ok (.iload 5, 2) := by decide +kernel
theorem dX8_goMinute_84 : decode cX8_goMinute 84 = .ok (.isub, 1) := by decide +kernel
theorem dX8_goMinute_85 : decode cX8_goMinute 85 = .ok (.iastore, 1) := by decide +kernel
theorem dX8_goMinute_86 : decode cX8_goMinute 86 = .ok (.aload_n 0, 1) := by decide +kernel
theorem dX8_goMinute_87 : decode cX8_goMinute 87 = .ok (.getfield 84, 3) := by decide +kernel
theorem dX8_goMinute_90 : decode cX8_goMinute 90 = .ok (.sipush 160, 3) := by decide +kernel
theorem dX8_goMinute_93 : decode cX8_goMinute 93 = .ok (.iload 4, 2) := by decide +kernel
theorem dX8_goMinute_95 : decode cX8_goMinute 95 = .ok (.imul, 1) := by decide +kernel
theorem dX8_goMinute_96 : decode cX8_goMinute 96 = .ok (.iload_n 2, 1) := by decide +kernel
theorem dX8_goMinute_97 : decode cX8_goMinute 97 = .ok (.iadd, 1) := by decide +kernel
theorem dX8_goMinute_98 : decode cX8_goMinute 98 = .ok (.aload_n 0, 1) := by decide +kernel
theorem dX8_goMinute_99 : decode cX8_goMinute 99 = .ok (.getfield 13, 3) := by decide +kernel
theorem dX8_goMinute_102 : decode cX8_goMinute 102 = .ok (.iload 4, 2) := by decide +kernel
theorem dX8_goMinute_104 : decode cX8_goMinute 104 = .ok (.iaload, 1) := by decide +kernel
theorem dX8_goMinute_105 : decode cX8_goMinute 105 = .ok (.iadd, 1) := by decide +kernel
theorem dX8_goMinute_106 : decode cX8_goMinute 106 = .ok (.dup2, 1) := by decide +kernel
theorem dX8_goMinute_107 : decode cX8_goMinute 107 = .ok (.iaload, 1) := by decide +kernel
theorem dX8_goMinute_108 : decode cX8_goMinute 108 = .ok (.iload 5, 2) := by decide +kernel
theorem dX8_goMinute_110 : decode cX8_goMinute 110 = .ok (.iadd, 1) := by decide +kernel
theorem dX8_goMinute_111 : decode cX8_goMinute 111 = .ok (.iastore, 1) := by decide +kernel
theorem dX8_goMinute_112 : decode cX8_goMinute 112 = .ok (.iinc 4 1, 3) := by decide +kernel
theorem dX8_goMinute_115 : decode cX8_goMinute 115 = .ok (.goto (-107), 3) := by decide +kernel
theorem dX8_goMinute_118 : decode cX8_goMinute 118 = .ok (.iconst 0, 1) := by decide +kernel
theorem dX8_goMinute_119 : decode cX8_goMinute 119 = .ok (.istore 4, 2) := by decide +kernel
theorem dX8_goMinute_121 : decode cX8_goMinute 121 = .ok (.iload 4, 2) := by decide +kernel
theorem dX8_goMinute_123 : decode cX8_goMinute 123 = .ok (.aload_n 0, 1) := by decide +kernel
theorem dX8_goMinute_124 : decode cX8_goMinute 124 = .ok (.getfield 129, 3) := by decide +kernel
theorem dX8_goMinute_127 : decode cX8_goMinute 127 = .ok (.if_icmp .ge 51, 3) := by decide +kernel
theorem dX8_goMinute_130 : decode cX8_goMinute 130 = .ok (.aload_n 0, 1) := by decide +kernel
theorem dX8_goMinute_131 : decode cX8_goMinute 131 = .ok (.getfield 87, 3) := by decide +kernel
theorem dX8_goMinute_134 : decode cX8_goMinute 134 = .ok (.bipush 120, 2) := by decide +kernel
theorem dX8_goMinute_136 : decode cX8_goMinute 136 = .ok (.iload 4, 2) := by decide +kernel
theorem dX8_goMinute_138 : decode cX8_goMinute 138 = .ok (.imul, 1) := by decide +kernel
theorem dX8_goMinute_139 : decode cX8_goMinute 139 = .ok (.iload_n 2, 1) := by decide +kernel
theorem dX8_goMinute_140 : decode cX8_goMinute 140 = .ok (.iadd, 1) := by decide +kernel
theorem dX8_goMinute_141 : decode cX8_goMinute 141 = .ok (.dup2, 1) := by decide +kernel
theorem dX8_goMinute_142 : decode cX8_goMinute 142 = .ok (.iaload, 1) := by decide +kernel
theorem dX8_goMinute_143 : decode cX8_goMinute 143 = .ok (.aload_n 0, 1) := by decide +kernel
theorem dX8_goMinute_144 : decode cX8_goMinute 144 = .ok (.getfield 84, 3) := by decide +kernel
theorem dX8_goMinute_147 : decode cX8_goMinute 147 = .ok (.sipush 160, 3) := by decide +kernel
theorem dX8_goMinute_150 : decode cX8_goMinute 150 = .ok (.iload 4, 2) := by decide +kernel
theorem dX8_goMinute_152 : decode cX8_goMinute 152 = .ok (.imul, 1) := by decide +kernel
theorem dX8_goMinute_153 : decode cX8_goMinute 153 = .ok (.iload_n 2, 1) := by decide +kernel
theorem dX8_goMinute_154 : decode cX8_goMinute 154 = .ok (.iadd, 1) := by decide +kernel
theorem dX8_goMinute_155 : decode cX8_goMinute 155 = .ok (.iaload, 1) := by decide +kernel
theorem dX8_goMinute_156 : decode cX8_goMinute 156 = .ok (.iadd, 1) := by decide +kernel
theorem dX8_goMinute_157 : decode cX8_goMinute 157 = .ok (.iastore, 1) := by decide +kernel
theorem dX8_goMinute_158 : decode cX8_goMinute 158 = .ok (.aload_n 0, 1) := by decide +kernel
theorem dX8_goMinute_159 : decode cX8_goMinute 159 = .ok (.getfield 84, 3) := by decide +kernel
theorem dX8_goMinute_162 : decode cX8_goMinute 162 = .ok (.sipush 160, 3) := by decide +kernel
theorem dX8_goMinute_165 : decode cX8_goMinute 165 = .ok (.iload 4, 2) := by decide +kernel
theorem dX8_goMinute_167 : decode cX8_goMinute 167 = .ok (.imul, 1) := by decide +kernel
theorem dX8_goMinute_168 : decode cX8_goMinute 168 = .ok (.iload_n 2, 1) := by decide +kernel
theorem dX8_goMinute_169 : decode cX8_goMinute 169 = .ok (.iadd, 1) := by decide +kernel
theorem dX8_goMinute_170 : decode cX8_goMinute 170 = .ok (.iconst 0, 1) := by decide +kernel
theorem dX8_goMinute_171 : decode cX8_goMinute 171 = .ok (.iastore, 1) := by decide +kernel
theorem dX8_goMinute_172 : decode cX8_goMinute 172 = .ok (.iinc 4 1, 3) := by decide +kernel
theorem dX8_goMinute_175 : decode cX8_goMinute 175 = .ok (.goto (-54), 3) := by decide +kernel
theorem dX8_goMinute_178 : decode cX8_goMinute 178 = .ok (.iconst 0, 1) := by decide +kernel
theorem dX8_goMinute_179 : decode cX8_goMinute 179 = .ok (.istore 4, 2) := by decide +kernel
theorem dX8_goMinute_181 : decode cX8_goMinute 181 = .ok (.iload 4, 2) := by decide +kernel
theorem dX8_goMinute_183 : decode cX8_goMinute 183 = .ok (.aload_n 0, 1) := by decide +kernel
theorem dX8_goMinute_184 : decode cX8_goMinute 184 = .ok (.getfield 266, 3) := by decide +kernel
theorem dX8_goMinute_187 : decode cX8_goMinute 187 = .ok (.if_icmp .ge 79, 3) := by decide +kernel
theorem dX8_goMinute_190 : decode cX8_goMinute 190 = .ok (.aload_n 0, 1) := by decide +kernel
theorem dX8_goMinute_191 : decode cX8_goMinute 191 = .ok (.iload 4, 2) := by decide +kernel
theorem dX8_goMinute_193 : decode cX8_goMinute 193 = .ok (.iload_n 2, 1) := by decide +kernel
theorem dX8_goMinute_194 : decode cX8_goMinute 194 = .ok (.invokevirtual 269, 3) := by decide +kernel
theorem dX8_goMinute_197 : decode cX8_goMinute 197 = .ok (.ifCond .ne 6, 3) := by decide +kernel
theorem dX8_goMinute_200 : decode cX8_goMinute 200 = .ok (.goto 60, 3) := by decide +kernel
theorem dX8_goMinute_203 : decode cX8_goMinute 203 = .ok (.aload_n 0, 1) := by decide +kernel
theorem dX8_goMinute_204 : decode cX8_goMinute 204 = .ok (.iload_n 1, 1) := by decide +kernel
theorem dX8_goMinute_205 : decode cX8_goMinute 205 = .ok (.iconst 0, 1) := by decide +kernel
theorem dX8_goMinute_206 : decode cX8_goMinute 206 = .ok (.iload_n 2, 1) := by decide +kernel
theorem dX8_goMinute_207 : decode cX8_goMinute 207 = .ok (.aload_n 0, 1) := by decide +kernel
theorem dX8_goMinute_208 : decode cX8_goMinute 208 = .ok (.invokevirtual 252, 3) := by decide +kernel
theorem dX8_goMinute_211 : decode cX8_goMinute 211 = .ok (.aload_n 0, 1) := by decide +kernel
theorem dX8_goMinute_212 : decode cX8_goMinute 212 = .ok (.getfield 43, 3) := by decide +kernel
theorem dX8_goMinute_215 : decode cX8_goMinute 215 = .ok (.iload_n 2, 1) := by decide +kernel
theorem dX8_goMinute_216 : decode cX8_goMinute 216 = .ok (.isub, 1) := by decide +kernel
theorem dX8_goMinute_217 : decode cX8_goMinute 217 = .ok (.invokevirtual 255, 3) := by decide +kernel
theorem dX8_goMinute_220 : decode cX8_goMinute 220 = .ok (.aload_n 0, 1) := by decide +kernel
theorem dX8_goMinute_221 : decode cX8_goMinute 221 = .ok (.getfield 22, 3) := by decide +kernel
theorem dX8_goMinute_224 : decode cX8_goMinute 224 = .ok (.iload 4, 2) := by decide +kernel
theorem dX8_goMinute_226 : decode cX8_goMinute 226 = .ok (.iaload, 1) := by decide +kernel
theorem dX8_goMinute_227 : decode cX8_goMinute 227 = .ok (.aload_n 0, 1) := by decide +kernel
theorem dX8_goMinute_228 : decode cX8_goMinute 228 = .ok (.iconst 1, 1) := by decide +kernel
theorem dX8_goMinute_229 : decode cX8_goMinute 229 = .ok (.invokevirtual 259, 3) := by decide +kernel
theorem dX8_goMinute_232 : decode cX8_goMinute 232 = .ok (.iconst 0, 1) := by decide +kernel
theorem dX8_goMinute_233 : decode cX8_goMinute 233 = .ok (.bipush 60, 2) := by decide +kernel
theorem dX8_goMinute_235 : decode cX8_goMinute 235 = .ok (.invokestatic 263, 3) := by decide +kernel
theorem dX8_goMinute_238 : decode cX8_goMinute 238 = .ok (.isub, 1) := by decide +kernel
theorem dX8_goMinute_239 : decode cX8_goMinute 239 = .ok (.istore 5, 2) := by decide +kernel
theorem dX8_goMinute_241 : decode cX8_goMinute 241 = .ok (.iload 5, 2) := by decide +kernel
theorem dX8_goMinute_243 : decode cX8_goMinute 243 = .ok (.ifCond .le 17, 3) := by decide +kernel
theorem dX8_goMinute_246 : decode cX8_goMinute 246 = .ok (.aload_n 0, 1) := by decide +kernel
theorem dX8_goMinute_247 : decode cX8_goMinute 247 = .ok (.iload 4, 2) := by decide +kernel
theorem dX8_goMinute_249 : decode cX8_goMinute 249 = .ok (.iload 5, 2) := by decide +kernel
theorem dX8_goMinute_251 : decode cX8_goMinute 251 = .ok (.aload_n 0, 1) := by decide +kernel
theorem dX8_goMinute_252 : decode cX8_goMinute 252 = .ok (.iload_n 1, 1) := by decide +kernel
theorem dX8_goMinute_253 : decode cX8_goMinute 253 = .ok (.invokevirtual 273, 3) := by decide +kernel
theorem dX8_goMinute_256 : decode cX8_goMinute 256 = .ok (.iload_n 2, 1) := by decide +kernel
theorem dX8_goMinute_257 : decode cX8_goMinute 257 = .ok (.invokevirtual 276, 3) := by decide +kernel
theorem dX8_goMinute_260 : decode cX8_goMinute 260 = .ok (.iinc 4 1, 3) := by decide +kernel
theorem dX8_goMinute_263 : decode cX8_goMinute 263 = .ok (.goto (-82), 3) := by decide +kernel
theorem dX8_goMinute_266 : decode cX8_goMinute 266 = .ok (.aload_n 0, 1) := by decide +kernel
theorem dX8_goMinute_267 : decode cX8_goMinute 267 = .ok (.invokevirtual 252, 3) := by decide +kernel
theorem dX8_goMinute_270 : decode cX8_goMinute 270 = .ok (.istore 4, 2) := by decide +kernel
theorem dX8_goMinute_272 : decode cX8_goMinute 272 = .ok (.iload 4, 2) := by decide +kernel
theorem dX8_goMinute_274 : decode cX8_goMinute 274 = .ok (.aload_n 0, 1) := by decide +kernel
theorem dX8_goMinute_275 : decode cX8_goMinute 275 = .ok (.getfield 280, 3) := by decide +kernel
theorem dX8_goMinute_278 : decode cX8_goMinute 278 = .ok (.if_icmp .le 14, 3) := by decide +kernel
theorem dX8_goMinute_281 : decode cX8_goMinute 281 = .ok (.aload_n 0, 1) := by decide +kernel
theorem dX8_goMinute_282 : decode cX8_goMinute 282 = .ok (.iload 4, 2) := by decide +kernel
theorem dX8_goMinute_284 : decode cX8_goMinute 284 = .ok (.putfield 280, 3) := by decide +kernel
theorem dX8_goMinute_287 : decode cX8_goMinute 287 = .ok (.aload_n 0, 1) := by decide +kernel
theorem dX8_goMinute_288 : decode cX8_goMinute 288 = .ok (.iload_n 2, 1) := by decide +kernel
theorem dX8_goMinute_289 : decode cX8_goMinute 289 = .ok (.putfield 283, 3) := by decide +kernel
theorem dX8_goMinute_292 : decode cX8_goMinute 292 = .ok (.iconst 0, 1) := by decide +kernel
theorem dX8_goMinute_293 : decode cX8_goMinute 293 = .ok (.istore 5, 2) := by decide +kernel
theorem dX8_goMinute_295 : decode cX8_goMinute 295 = .ok (.iload 5, 2) := by decide +kernel
theorem dX8_goMinute_297 : decode cX8_goMinute 297 = .ok (.aload_n 0, 1) := by decide +kernel
theorem dX8_goMinute_298 : decode cX8_goMinute 298 = .ok (.getfield 129, 3) := by decide +kernel
theorem dX8_goMinute_301 : decode cX8_goMinute 301 = .ok (.if_icmp .ge 28, 3) := by decide +kernel
theorem dX8_goMinute_304 : decode cX8_goMinute 304 = .ok (.aload_n 0, 1) := by decide +kernel
theorem dX8_goMinute_305 : decode cX8_goMinute 305 = .ok (.getfield 93, 3) := by decide +kernel
theorem dX8_goMinute_308 : decode cX8_goMinute 308 = .ok (.bipush 120, 2) := by decide +kernel
theorem dX8_goMinute_310 : decode cX8_goMinute 310 = .ok (.iload 5, 2) := by decide +kernel
theorem dX8_goMinute_312 : decode cX8_goMinute 312 = .ok (.imul, 1) := by decide +kernel
theorem dX8_goMinute_313 : decode cX8_goMinute 313 = .ok (.iload_n 2, 1) := by decide +kernel
theorem dX8_goMinute_314 : decode cX8_goMinute 314 = .ok (.iadd, 1) := by decide +kernel
theorem dX8_goMinute_315 : decode cX8_goMinute 315 = .ok (.aload_n 0, 1) := by decide +kernel
theorem dX8_goMinute_316 : decode cX8_goMinute 316 = .ok (.getfield 96, 3) := by decide +kernel
theorem dX8_goMinute_319 : decode cX8_goMinute 319 = .ok (.iload 5, 2) := by decide +kernel
theorem dX8_goMinute_321 : decode cX8_goMinute 321 = .ok (.iaload, 1) := by decide +kernel
theorem dX8_goMinute_322 : decode cX8_goMinute 322 = .ok (.iastore, 1) := by decide +kernel
theorem dX8_goMinute_323 : decode cX8_goMinute 323 = .ok (.iinc 5 1, 3) := by decide +kernel
theorem dX8_goMinute_326 : decode cX8_goMinute 326 = .ok (.goto (-31), 3) := by decide +kernel
theorem dX8_goMinute_329 : decode cX8_goMinute 329 = .ok (.return_, 1) := by decide +kernel
theorem dX8_day_0 : decode cX8_day 0 = .ok (.aload_n 0, 1) := by decide +kernel
theorem dX8_day_1 : decode cX8_day 1 = .ok (.iload_n 2, 1) := by decide +kernel
theorem dX8_day_2 : decode cX8_day 2 = .ok (.putfield 266, 3) := by decide +kernel
theorem dX8_day_5 : decode cX8_day 5 = .ok (.aload_n 0, 1) := by decide +kernel
theorem dX8_day_6 : decode cX8_day 6 = .ok (.iconst 0, 1) := by decide +kernel
theorem dX8_day_7 : decode cX8_day 7 = .ok (.putfield 280, 3) := by decide +kernel
theorem dX8_day_10 : decode cX8_day 10 = .ok (.aload_n 0, 1) := by decide +kernel
theorem dX8_day_11 : decode cX8_day 11 = .ok (.iconst 0, 1) := by decide +kernel
theorem dX8_day_12 : decode cX8_day 12 = .ok (.putfield 283, 3) := by decide +kernel
theorem dX8_day_15 : decode cX8_day 15 = .ok (.iconst 0, 1) := by decide +kernel
theorem dX8_day_16 : decode cX8_day 16 = .ok (.istore_n 3, 1) := by decide +kernel
theorem dX8_day_17 : decode cX8_day 17 = .ok (.iload_n 3, 1) := by decide +kernel
theorem dX8_day_18 : decode cX8_day 18 = .ok (.sipush 960, 3) := by decide +kernel
theorem dX8_day_21 : decode cX8_day 21 = .ok (.if_icmp .ge 16, 3) := by decide +kernel
theorem dX8_day_24 : decode cX8_day 24 = .ok (.aload_n 0, 1) := by decide +kernel
theorem dX8_day_25 : decode cX8_day 25 = .ok (.getfield 84, 3) := by decide +kernel
theorem dX8_day_28 : decode cX8_day 28 = .ok (.iload_n 3, 1) := by decide +kernel
theorem dX8_day_29 : decode cX8_day 29 = .ok (.iconst 0, 1) := by decide +kernel
theorem dX8_day_30 : decode cX8_day 30 = .ok (.iastore, 1) := by decide +kernel
theorem dX8_day_31 : decode cX8_day 31 = .ok (.iinc 3 1, 3) := by decide +kernel
theorem dX8_day_34 : decode cX8_day 34 = .ok (.goto (-17), 3) := by decide +kernel
theorem dX8_day_37 : decode cX8_day 37 = .ok (.iconst 0, 1) := by decide +kernel
theorem dX8_day_38 : decode cX8_day 38 = .ok (.istore_n 3, 1) := by decide +kernel
theorem dX8_day_39 : decode cX8_day 39 = .ok (.iload_n 3, 1) := by decide +kernel
theorem dX8_day_40 : decode cX8_day 40 = .ok (.sipush 720, 3) := by decide +kernel
theorem dX8_day_43 : decode cX8_day 43 = .ok (.if_icmp .ge 16, 3) := by decide +kernel
theorem dX8_day_46 : decode cX8_day 46 = .ok (.aload_n 0, 1) := by decide +kernel
theorem dX8_day_47 : decode cX8_day 47 = .ok (.getfield 87, 3) := by decide +kernel
theorem dX8_day_50 : decode cX8_day 50 = .ok (.iload_n 3, 1) := by decide +kernel
theorem dX8_day_51 : decode cX8_day 51 = .ok (.iconst 0, 1) := by decide +kernel
theorem dX8_day_52 : decode cX8_day 52 = .ok (.iastore, 1) := by decide +kernel
theorem dX8_day_53 : decode cX8_day 53 = .ok (.iinc 3 1, 3) := by decide +kernel
theorem dX8_day_56 : decode cX8_day 56 = .ok (.goto (-17), 3) := by decide +kernel
theorem dX8_day_59 : decode cX8_day 59 = .ok (.iconst 0, 1) := by decide +kernel
theorem dX8_day_60 : decode cX8_day 60 = .ok (.istore_n 3, 1) := by decide +kernel
theorem dX8_day_61 : decode cX8_day 61 = .ok (.iload_n 3, 1) := by decide +kernel
theorem dX8_day_62 : decode cX8_day 62 = .ok (.bipush 24, 2) := by decide +kernel
theorem dX8_day_64 : decode cX8_day 64 = .ok (.if_icmp .ge 16, 3) := by decide +kernel
theorem dX8_day_67 : decode cX8_day 67 = .ok (.aload_n 0, 1) := by decide +kernel
theorem dX8_day_68 : decode cX8_day 68 = .ok (.getfield 90, 3) := by decide +kernel
theorem dX8_day_71 : decode cX8_day 71 = .ok (.iload_n 3, 1) := by decide +kernel
theorem dX8_day_72 : decode cX8_day 72 = .ok (.iconst 0, 1) := by decide +kernel
theorem dX8_day_73 : decode cX8_day 73 = .ok (.iastore, 1) := by decide +kernel
theorem dX8_day_74 : decode cX8_day 74 = .ok (.iinc 3 1, 3) := by decide +kernel
theorem dX8_day_77 : decode cX8_day 77 = .ok (.goto (-16), 3) := by decide +kernel
theorem dX8_day_80 : decode cX8_day 80 = .ok (.iconst 0, 1) := by decide +kernel
theorem dX8_day_81 : decode cX8_day 81 = .ok (.istore_n 3, 1) := by decide +kernel
theorem dX8_day_82 : decode cX8_day 82 = .ok (.iload_n 3, 1) := by decide +kernel
theorem dX8_day_83 : decode cX8_day 83 = .ok (.aload_n 0, 1) := by decide +kernel
theorem dX8_day_84 : decode cX8_day 84 = .ok (.getfield 129, 3) := by decide +kernel
theorem dX8_day_87 : decode cX8_day 87 = .ok (.if_icmp .ge 28, 3) := by decide +kernel
theorem dX8_day_90 : decode cX8_day 90 = .ok (.aload_n 0, 1) := by decide +kernel
theorem dX8_day_91 : decode cX8_day 91 = .ok (.getfield 81, 3) := by decide +kernel
theorem dX8_day_94 : decode cX8_day 94 = .ok (.iload_n 3, 1) := by decide +kernel
theorem dX8_day_95 : decode cX8_day 95 = .ok (.aload_n 0, 1) := by decide +kernel
theorem dX8_day_96 : decode cX8_day 96 = .ok (.getfield 7, 3) := by decide +kernel
theorem dX8_day_99 : decode cX8_day 99 = .ok (.iload_n 3, 1) := by decide +kernel
theorem dX8_day_100 : decode cX8_day 100 = .ok (.iaload, 1) := by decide +kernel
theorem dX8_day_101 : decode cX8_day 101 = .ok (.iastore, 1) := by decide +kernel
theorem dX8_day_102 : decode cX8_day 102 = .ok (.aload_n 0, 1) := by decide +kernel
theorem dX8_day_103 : decode cX8_day 103 = .ok (.getfield 96, 3) := by decide +kernel
theorem dX8_day_106 : decode cX8_day 106 = .ok (.iload_n 3, 1) := by decide +kernel
theorem dX8_day_107 : decode cX8_day 107 = .ok (.iconst 0, 1) := by decide +kernel
theorem dX8_day_108 : decode cX8_day 108 = .ok (.iastore, 1) := by decide +kernel
theorem dX8_day_109 : decode cX8_day 109 = .ok (.iinc 3 1, 3) := by decide +kernel
theorem dX8_day_112 : decode cX8_day 112 = .ok (.goto (-30), 3) := by decide +kernel
theorem dX8_day_115 : decode cX8_day 115 = .ok (.iconst 0, 1) := by decide +kernel
theorem dX8_day_116 : decode cX8_day 116 = .ok (.istore_n 3, 1) := by decide +kernel
theorem dX8_day_117 : decode cX8_day 117 = .ok (.iload_n 3, 1) := by decide +kernel
theorem dX8_day_118 : decode cX8_day 118 = .ok (.aload_n 0, 1) := by decide +kernel
theorem dX8_day_119 : decode cX8_day 119 = .ok (.getfield 43, 3) := by decide +kernel
theorem dX8_day_122 : decode cX8_day 122 = .ok (.if_icmp .ge 15, 3) := by decide +kernel
theorem dX8_day_125 : decode cX8_day 125 = .ok (.aload_n 0, 1) := by decide +kernel
theorem dX8_day_126 : decode cX8_day 126 = .ok (.iload_n 1, 1) := by decide +kernel
theorem dX8_day_127 : decode cX8_day 127 = .ok (.iload_n 3, 1) := by decide +kernel
theorem dX8_day_128 : decode cX8_day 128 = .ok (.invokevirtual 286, 3) := by decide +kernel
theorem dX8_day_131 : decode cX8_day 131 = .ok (.iinc 3 1, 3) := by decide +kernel
theorem dX8_day_134 : decode cX8_day 134 = .ok (.goto (-17), 3) := by decide +kernel
theorem dX8_day_137 : decode cX8_day 137 = .ok (.return_, 1) := by decide +kernel
theorem dX8_leftOf_0 : decode cX8_leftOf 0 = .ok (.aload_n 0, 1) := by decide +kernel
theorem dX8_leftOf_1 : decode cX8_leftOf 1 = .ok (.getfield 7, 3) := by decide +kernel
theorem dX8_leftOf_4 : decode cX8_leftOf 4 = .ok (.iload_n 1, 1) := by decide +kernel
theorem dX8_leftOf_5 : decode cX8_leftOf 5 = .ok (.iaload, 1) := by decide +kernel
theorem dX8_leftOf_6 : decode cX8_leftOf 6 = .ok (.aload_n 0, 1) := by decide +kernel
theorem dX8_leftOf_7 : decode cX8_leftOf 7 = .ok (.getfield 96, 3) := by decide +kernel
theorem dX8_leftOf_10 : decode cX8_leftOf 10 = .ok (.iload_n 1, 1) := by decide +kernel
theorem dX8_leftOf_11 : decode cX8_leftOf 11 = .ok (.iaload, 1) := by decide +kernel
theorem dX8_leftOf_12 : decode cX8_leftOf 12 = .ok (.isub, 1) := by decide +kernel
theorem dX8_leftOf_13 : decode cX8_leftOf 13 = .ok (.ireturn, 1) := by decide +kernel
theorem dX8_leftOfAll_0 : decode cX8_leftOfAll 0 = .ok (.iconst 0, 1) := by decide +kernel
theorem dX8_leftOfAll_1 : decode cX8_leftOfAll 1 = .ok (.istore_n 1, 1) := by decide +kernel
theorem dX8_leftOfAll_2 : decode cX8_leftOfAll 2 = .ok (.iconst 0, 1) := by decide +kernel
theorem dX8_leftOfAll_3 : decode cX8_leftOfAll 3 = .ok (.istore_n 2, 1) := by decide +kernel
theorem dX8_leftOfAll_4 : decode cX8_leftOfAll 4 = .ok (.iload_n 2, 1) := by decide +kernel
theorem dX8_leftOfAll_5 : decode cX8_leftOfAll 5 = .ok (.aload_n 0, 1) := by decide +kernel
theorem dX8_leftOfAll_6 : decode cX8_leftOfAll 6 = .ok (.getfield 129, 3) := by decide +kernel
theorem dX8_leftOfAll_9 : decode cX8_leftOfAll 9 = .ok (.if_icmp .ge 17, 3) := by decide +kernel
theorem dX8_leftOfAll_12 : decode cX8_leftOfAll 12 = .ok (.iload_n 1, 1) := by decide +kernel
theorem dX8_leftOfAll_13 : decode cX8_leftOfAll 13 = .ok (.aload_n 0, 1) := by decide +kernel
theorem dX8_leftOfAll_14 : decode cX8_leftOfAll 14 = .ok (.iload_n 2, 1) := by decide +kernel
theorem dX8_leftOfAll_15 : decode cX8_leftOfAll 15 = .ok (.invokevirtual 289, 3) := by decide +kernel
theorem dX8_leftOfAll_18 : decode cX8_leftOfAll 18 = .ok (.iadd, 1) := by decide +kernel
theorem dX8_leftOfAll_19 : decode cX8_leftOfAll 19 = .ok (.istore_n 1, 1) := by decide +kernel
theorem dX8_leftOfAll_20 : decode cX8_leftOfAll 20 = .ok (.iinc 2 1, 3) := by decide +kernel
theorem dX8_leftOfAll_23 : decode cX8_leftOfAll 23 = .ok (.goto (-19), 3) := by decide +kernel
theorem dX8_leftOfAll_26 : decode cX8_leftOfAll 26 = .ok (.iload_n 1, 1) := by decide +kernel
theorem dX8_leftOfAll_27 : decode cX8_leftOfAll 27 = .ok (.ireturn, 1) := by decide +kernel
theorem dX8_left_0 : decode cX8_left 0 = .ok (.aload_n 0, 1) := by decide +kernel
theorem dX8_left_1 : decode cX8_left 1 = .ok (.iload_n 1, 1) := by decide +kernel
theorem dX8_left_2 : decode cX8_left 2 = .ok (.invokevirtual 152, 3) := by decide +kernel
theorem dX8_left_5 : decode cX8_left 5 = .ok (.ifCond .eq 16, 3) := by decide +kernel
theorem dX8_left_8 : decode cX8_left 8 = .ok (.iload_n 2, 1) := by decide +kernel
theorem dX8_left_9 : decode cX8_left 9 = .ok (.iconst (-1), 1) := by decide +kernel
theorem dX8_left_10 : decode cX8_left 10 = .ok (.if_icmp .eq 14, 3) := by decide +kernel
theorem dX8_left_13 : decode cX8_left 13 = .ok (.aload_n 0, 1) := by decide +kernel
theorem dX8_left_14 : decode cX8_left 14 = .ok (.iload_n 2, 1) := by decide +kernel
theorem dX8_left_15 : decode cX8_left 15 = .ok (.invokevirtual 146, 3) := by decide +kernel
theorem dX8_left_18 : decode cX8_left 18 = .ok (.ifCond .ne 6, 3) := by decide +kernel
theorem dX8_left_21 : decode cX8_left 21 = .ok (.bipush (-2), 2) := by decide +kernel
theorem dX8_left_23 : decode cX8_left 23 = .ok (.ireturn, 1) := by decide +kernel
theorem dX8_left_24 : decode cX8_left 24 = .ok (.aload_n 0, 1) := by decide +kernel
theorem dX8_left_25 : decode cX8_left 25 = .ok (.iload_n 1, 1) := by decide +kernel
theorem dX8_left_26 : decode cX8_left 26 = .ok (.aload_n 0, 1) := by decide +kernel
theorem dX8_left_27 : decode cX8_left 27 = .ok (.getfield 143, 3) := by decide +kernel
theorem dX8_left_30 : decode cX8_left 30 = .ok (.invokevirtual 292, 3) := by decide +kernel
theorem dX8_left_33 : decode cX8_left 33 = .ok (.iload_n 2, 1) := by decide +kernel
theorem dX8_left_34 : decode cX8_left 34 = .ok (.iconst (-1), 1) := by decide +kernel
theorem dX8_left_35 : decode cX8_left 35 = .ok (.if_icmp .ne 10, 3) := by decide +kernel
theorem dX8_left_38 : decode cX8_left 38 = .ok (.aload_n 0, 1) := by decide +kernel
theorem dX8_left_39 : decode cX8_left 39 = .ok (.invokevirtual 295, 3) := by decide +kernel
theorem dX8_left_42 : decode cX8_left 42 = .ok (.goto 8, 3) := by decide +kernel
theorem dX8_left_45 : decode cX8_left 45 = .ok (.aload_n 0, 1) := by decide +kernel
theorem dX8_left_46 : decode cX8_left 46 = .ok (.iload_n 2, 1) := by decide +kernel
theorem dX8_left_47 : decode cX8_left 47 = .ok (.invokevirtual 289, 3) := by decide +kernel
theorem dX8_left_50 : decode cX8_left 50 = .ok (.ireturn, 1) := by decide +kernel
theorem dX8_harmOf_0 : decode cX8_harmOf 0 = .ok (.aload_n 0, 1) := by decide +kernel
theorem dX8_harmOf_1 : decode cX8_harmOf 1 = .ok (.iload_n 1, 1) := by decide +kernel
theorem dX8_harmOf_2 : decode cX8_harmOf 2 = .ok (.aload_n 0, 1) := by decide +kernel
theorem dX8_harmOf_3 : decode cX8_harmOf 3 = .ok (.getfield 143, 3) := by decide +kernel
theorem dX8_harmOf_6 : decode cX8_harmOf 6 = .ok (.invokevirtual 292, 3) := by decide +kernel
theorem dX8_harmOf_9 : decode cX8_harmOf 9 = .ok (.aload_n 0, 1) := by decide +kernel
theorem dX8_harmOf_10 : decode cX8_harmOf 10 = .ok (.invokevirtual 252, 3) := by decide +kernel
theorem dX8_harmOf_13 : decode cX8_harmOf 13 = .ok (.istore_n 2, 1) := by decide +kernel
theorem dX8_harmOf_14 : decode cX8_harmOf 14 = .ok (.lconst 0, 1) := by decide +kernel
theorem dX8_harmOf_15 : decode cX8_harmOf 15 = .ok (.lstore_n 3, 1) := by decide +kernel
theorem dX8_harmOf_16 : decode cX8_harmOf 16 = .ok (.iconst 0, 1) := by decide +kernel
theorem dX8_harmOf_17 : decode cX8_harmOf 17 = .ok (.istore 5, 2) := by decide +kernel
theorem dX8_harmOf_19 : decode cX8_harmOf 19 = .ok (.iload 5, 2) := by decide +kernel
theorem dX8_harmOf_21 : decode cX8_harmOf 21 = .ok (.aload_n 0, 1) := by decide +kernel
theorem dX8_harmOf_22 : decode cX8_harmOf 22 = .ok (.getfield 129, 3) := by decide +kernel
theorem dX8_harmOf_25 : decode cX8_harmOf 25 = .ok (.if_icmp .ge 76, 3) := by decide +kernel
theorem dX8_harmOf_28 : decode cX8_harmOf 28 = .ok (.iconst 0, 1) := by decide +kernel
theorem dX8_harmOf_29 : decode cX8_harmOf 29 = .ok (.istore 6, 2) := by decide +kernel
theorem dX8_harmOf_31 : decode cX8_harmOf 31 = .ok (.iload 6, 2) := by decide +kernel
theorem dX8_harmOf_33 : decode cX8_harmOf 33 = .ok (.bipush 6, 2) := by decide +kernel
theorem dX8_harmOf_35 : decode cX8_harmOf 35 = .ok (.if_icmp .ge 17, 3) := by decide +kernel
theorem dX8_harmOf_38 : decode cX8_harmOf 38 = .ok (.aload_n 0, 1) := by decide +kernel
theorem dX8_harmOf_39 : decode cX8_harmOf 39 = .ok (.getfield 72, 3) := by decide +kernel
theorem dX8_harmOf_42 : decode cX8_harmOf 42 = .ok (.iload 6, 2) := by decide +kernel
theorem dX8_harmOf_44 : decode cX8_harmOf 44 = .ok (.iconst 0, 1) := by decide +kernel
theorem dX8_harmOf_45 : decode cX8_harmOf 45 = .ok (.iastore, 1) := by decide +kernel
theorem dX8_harmOf_46 : decode cX8_harmOf 46 = .ok (.iinc 6 1, 3) := by decide +kernel
theorem dX8_harmOf_49 : decode cX8_harmOf 49 = .ok (.goto (-18), 3) := by decide +kernel
theorem dX8_harmOf_52 : decode cX8_harmOf 52 = .ok (.aload_n 0, 1) := by decide +kernel
theorem dX8_harmOf_53 : decode cX8_harmOf 53 = .ok (.getfield 72, 3) := by decide +kernel
theorem dX8_harmOf_56 : decode cX8_harmOf 56 = .ok (.iconst 0, 1) := by decide +kernel
theorem dX8_harmOf_57 : decode cX8_harmOf 57 = .ok (.aload_n 0, 1) := by decide +kernel
theorem dX8_harmOf_58 : decode cX8_harmOf 58 = .ok (.getfield 81, 3) := by decide +kernel
theorem dX8_harmOf_61 : decode cX8_harmOf 61 = .ok (.iload 5, 2) := by decide +kernel
theorem dX8_harmOf_63 : decode cX8_harmOf 63 = .ok (.iaload, 1) := by decide +kernel
theorem dX8_harmOf_64 : decode cX8_harmOf 64 = .ok (.iastore, 1) := by decide +kernel
theorem dX8_harmOf_65 : decode cX8_harmOf 65 = .ok (.aload_n 0, 1) := by decide +kernel
theorem dX8_harmOf_66 : decode cX8_harmOf 66 = .ok (.getfield 72, 3) := by decide +kernel
theorem dX8_harmOf_69 : decode cX8_harmOf 69 = .ok (.iconst 1, 1) := by decide +kernel
theorem dX8_harmOf_70 : decode cX8_harmOf 70 = .ok (.iload_n 2, 1) := by decide +kernel
theorem dX8_harmOf_71 : decode cX8_harmOf 71 = .ok (.iastore, 1) := by decide +kernel
theorem dX8_harmOf_72 : decode cX8_harmOf 72 = .ok (.lload_n 3, 1) := by decide +kernel
theorem dX8_harmOf_73 : decode cX8_harmOf 73 = .ok (.aload_n 0, 1) := by decide +kernel
theorem dX8_harmOf_74 : decode cX8_harmOf 74 = .ok (.iconst 2, 1) := by decide +kernel
theorem dX8_harmOf_75 : decode cX8_harmOf 75 = .ok (.invokevirtual 259, 3) := by decide +kernel
theorem dX8_harmOf_78 : decode cX8_harmOf 78 = .ok (.iconst 0, 1) := by decide +kernel
theorem dX8_harmOf_79 : decode cX8_harmOf 79 = .ok (.bipush 99, 2) := by decide +kernel
theorem dX8_harmOf_81 : decode cX8_harmOf 81 = .ok (.invokestatic 263, 3) := by decide +kernel
theorem dX8_harmOf_84 : decode cX8_harmOf 84 = .ok (.i2l, 1) := by decide +kernel
theorem dX8_harmOf_85 : decode cX8_harmOf 85 = .ok (.aload_n 0, 1) := by decide +kernel
theorem dX8_harmOf_86 : decode cX8_harmOf 86 = .ok (.iload 5, 2) := by decide +kernel
theorem dX8_harmOf_88 : decode cX8_harmOf 88 = .ok (.invokevirtual 289, 3) := by decide +kernel
theorem dX8_harmOf_91 : decode cX8_harmOf 91 = .ok (.i2l, 1) := by decide +kernel
theorem dX8_harmOf_92 : decode cX8_harmOf 92 = .ok (.lmul, 1) := by decide +kernel
theorem dX8_harmOf_93 : decode cX8_harmOf 93 = .ok (.ladd, 1) := by decide +kernel
theorem dX8_harmOf_94 : decode cX8_harmOf 94 = .ok (.lstore_n 3, 1) := by decide +kernel
theorem dX8_harmOf_95 : decode cX8_harmOf 95 = .ok (.iinc 5 1, 3) := by decide +kernel
theorem dX8_harmOf_98 : decode cX8_harmOf 98 = .ok (.goto (-79), 3) := by decide +kernel
theorem dX8_harmOf_101 : decode cX8_harmOf 101 = .ok (.lload_n 3, 1) := by decide +kernel
theorem dX8_harmOf_102 : decode cX8_harmOf 102 = .ok (.lreturn, 1) := by decide +kernel
theorem dX8_harm_0 : decode cX8_harm 0 = .ok (.aload_n 0, 1) := by decide +kernel
theorem dX8_harm_1 : decode cX8_harm 1 = .ok (.iload_n 1, 1) := by decide +kernel
theorem dX8_harm_2 : decode cX8_harm 2 = .ok (.invokevirtual 152, 3) := by decide +kernel
theorem dX8_harm_5 : decode cX8_harm 5 = .ok (.ifCond .eq 11, 3) := by decide +kernel
theorem dX8_harm_8 : decode cX8_harm 8 = .ok (.aload_n 0, 1) := by decide +kernel
theorem dX8_harm_9 : decode cX8_harm 9 = .ok (.iload_n 1, 1) := by decide +kernel
theorem dX8_harm_10 : decode cX8_harm 10 = .ok (.invokevirtual 298, 3) := by decide +kernel
theorem dX8_harm_13 : decode cX8_harm 13 = .ok (.goto 6, 3) := by decide +kernel
theorem dX8_harm_16 : decode cX8_harm 16 = .ok (.ldc2_w 302, 3) := by decide +kernel
theorem dX8_harm_19 : decode cX8_harm 19 = .ok (.lreturn, 1) := by decide +kernel
theorem dX8_rode_0 : decode cX8_rode 0 = .ok (.aload_n 0, 1) := by decide +kernel
theorem dX8_rode_1 : decode cX8_rode 1 = .ok (.iload_n 1, 1) := by decide +kernel
theorem dX8_rode_2 : decode cX8_rode 2 = .ok (.invokevirtual 152, 3) := by decide +kernel
theorem dX8_rode_5 : decode cX8_rode 5 = .ok (.ifCond .eq 22, 3) := by decide +kernel
theorem dX8_rode_8 : decode cX8_rode 8 = .ok (.iload_n 2, 1) := by decide +kernel
theorem dX8_rode_9 : decode cX8_rode 9 = .ok (.iconst (-1), 1) := by decide +kernel
theorem dX8_rode_10 : decode cX8_rode 10 = .ok (.if_icmp .eq 20, 3) := by decide +kernel
theorem dX8_rode_13 : decode cX8_rode 13 = .ok (.iload_n 2, 1) := by decide +kernel
theorem dX8_rode_14 : decode cX8_rode 14 = .ok (.iconst 0, 1) := by decide +kernel
theorem dX8_rode_15 : decode cX8_rode 15 = .ok (.aload_n 0, 1) := by decide +kernel
theorem dX8_rode_16 : decode cX8_rode 16 = .ok (.getfield 143, 3) := by decide +kernel
theorem dX8_rode_19 : decode cX8_rode 19 = .ok (.iconst 1, 1) := by decide +kernel
theorem dX8_rode_20 : decode cX8_rode 20 = .ok (.isub, 1) := by decide +kernel
theorem dX8_rode_21 : decode cX8_rode 21 = .ok (.invokestatic 132, 3) := by decide +kernel
theorem dX8_rode_24 : decode cX8_rode 24 = .ok (.ifCond .ne 6, 3) := by decide +kernel
theorem dX8_rode_27 : decode cX8_rode 27 = .ok (.bipush (-2), 2) := by decide +kernel
theorem dX8_rode_29 : decode cX8_rode 29 = .ok (.ireturn, 1) := by decide +kernel
theorem dX8_rode_30 : decode cX8_rode 30 = .ok (.aload_n 0, 1) := by decide +kernel
theorem dX8_rode_31 : decode cX8_rode 31 = .ok (.iload_n 1, 1) := by decide +kernel
theorem dX8_rode_32 : decode cX8_rode 32 = .ok (.aload_n 0, 1) := by decide +kernel
theorem dX8_rode_33 : decode cX8_rode 33 = .ok (.getfield 143, 3) := by decide +kernel
theorem dX8_rode_36 : decode cX8_rode 36 = .ok (.invokevirtual 292, 3) := by decide +kernel
theorem dX8_rode_39 : decode cX8_rode 39 = .ok (.iconst 0, 1) := by decide +kernel
theorem dX8_rode_40 : decode cX8_rode 40 = .ok (.istore_n 3, 1) := by decide +kernel
theorem dX8_rode_41 : decode cX8_rode 41 = .ok (.iconst 0, 1) := by decide +kernel
theorem dX8_rode_42 : decode cX8_rode 42 = .ok (.istore 4, 2) := by decide +kernel
theorem dX8_rode_44 : decode cX8_rode 44 = .ok (.iload 4, 2) := by decide +kernel
theorem dX8_rode_46 : decode cX8_rode 46 = .ok (.aload_n 0, 1) := by decide +kernel
theorem dX8_rode_47 : decode cX8_rode 47 = .ok (.getfield 143, 3) := by decide +kernel
theorem dX8_rode_50 : decode cX8_rode 50 = .ok (.if_icmp .ge 30, 3) := by decide +kernel
theorem dX8_rode_53 : decode cX8_rode 53 = .ok (.iload_n 2, 1) := by decide +kernel
theorem dX8_rode_54 : decode cX8_rode 54 = .ok (.iconst (-1), 1) := by decide +kernel
theorem dX8_rode_55 : decode cX8_rode 55 = .ok (.if_icmp .eq 9, 3) := by decide +kernel
theorem dX8_rode_58 : decode cX8_rode 58 = .ok (.iload 4, 2) := by decide +kernel
theorem dX8_rode_60 : decode cX8_rode 60 = .ok (.iload_n 2, 1) := by decide +kernel
theorem dX8_rode_61 : decode cX8_rode 61 = .ok (.if_icmp .ne 13, 3) := by decide +kernel
theorem dX8_rode_64 : decode cX8_rode 64 = .ok (.iload_n 3, 1) := by decide +kernel
theorem dX8_rode_65 : decode cX8_rode 65 = .ok (.aload_n 0, 1) := by decide +kernel
theorem dX8_rode_66 : decode cX8_rode 66 = .ok (.getfield 90, 3) := by decide +kernel
theorem dX8_rode_69 : decode cX8_rode 69 = .ok (.iload 4, 2) := by decide +kernel
theorem dX8_rode_71 : decode cX8_rode 71 = .ok (.iaload, 1) := by decide +kernel
theorem dX8_rode_72 : decode cX8_rode 72 = .ok (.iadd, 1) := by decide +kernel
theorem dX8_rode_73 : decode cX8_rode 73 = .ok (.istore_n 3, 1) := by decide +kernel
theorem dX8_rode_74 : decode cX8_rode 74 = .ok (.iinc 4 1, 3) := by decide +kernel
theorem dX8_rode_77 : decode cX8_rode 77 = .ok (.goto (-33), 3) := by decide +kernel
theorem dX8_rode_80 : decode cX8_rode 80 = .ok (.iload_n 3, 1) := by decide +kernel
theorem dX8_rode_81 : decode cX8_rode 81 = .ok (.ireturn, 1) := by decide +kernel
theorem dX8_waits_0 : decode cX8_waits 0 = .ok (.aload_n 0, 1) := by decide +kernel
theorem dX8_waits_1 : decode cX8_waits 1 = .ok (.iload_n 1, 1) := by decide +kernel
theorem dX8_waits_2 : decode cX8_waits 2 = .ok (.invokevirtual 152, 3) := by decide +kernel
theorem dX8_waits_5 : decode cX8_waits 5 = .ok (.ifCond .eq 12, 3) := by decide +kernel
theorem dX8_waits_8 : decode cX8_waits 8 = .ok (.iload_n 2, 1) := by decide +kernel
theorem dX8_waits_9 : decode cX8_waits 9 = .ok (.iconst 0, 1) := by decide +kernel
theorem dX8_waits_10 : decode cX8_waits 10 = .ok (.iconst 1, 1) := by decide +kernel
theorem dX8_waits_11 : decode cX8_waits 11 = .ok (.invokestatic 132, 3) := by decide +kernel
theorem dX8_waits_14 : decode cX8_waits 14 = .ok (.ifCond .ne 6, 3) := by decide +kernel
theorem dX8_waits_17 : decode cX8_waits 17 = .ok (.bipush (-2), 2) := by decide +kernel
theorem dX8_waits_19 : decode cX8_waits 19 = .ok (.ireturn, 1) := by decide +kernel
theorem dX8_waits_20 : decode cX8_waits 20 = .ok (.aload_n 0, 1) := by decide +kernel
theorem dX8_waits_21 : decode cX8_waits 21 = .ok (.iload_n 1, 1) := by decide +kernel
theorem dX8_waits_22 : decode cX8_waits 22 = .ok (.aload_n 0, 1) := by decide +kernel
theorem dX8_waits_23 : decode cX8_waits 23 = .ok (.getfield 143, 3) := by decide +kernel
theorem dX8_waits_26 : decode cX8_waits 26 = .ok (.invokevirtual 292, 3) := by decide +kernel
theorem dX8_waits_29 : decode cX8_waits 29 = .ok (.iload_n 2, 1) := by decide +kernel
theorem dX8_waits_30 : decode cX8_waits 30 = .ok (.ifCond .ne 10, 3) := by decide +kernel
theorem dX8_waits_33 : decode cX8_waits 33 = .ok (.aload_n 0, 1) := by decide +kernel
theorem dX8_waits_34 : decode cX8_waits 34 = .ok (.getfield 280, 3) := by decide +kernel
theorem dX8_waits_37 : decode cX8_waits 37 = .ok (.goto 7, 3) := by decide +kernel
theorem dX8_waits_40 : decode cX8_waits 40 = .ok (.aload_n 0, 1) := by decide +kernel
theorem dX8_waits_41 : decode cX8_waits 41 = .ok (.getfield 283, 3) := by decide +kernel
theorem dX8_waits_44 : decode cX8_waits 44 = .ok (.ireturn, 1) := by decide +kernel
theorem dX8_down_0 : decode cX8_down 0 = .ok (.aload_n 0, 1) := by decide +kernel
theorem dX8_down_1 : decode cX8_down 1 = .ok (.iload_n 1, 1) := by decide +kernel
theorem dX8_down_2 : decode cX8_down 2 = .ok (.invokevirtual 152, 3) := by decide +kernel
theorem dX8_down_5 : decode cX8_down 5 = .ok (.ifCond .eq 30, 3) := by decide +kernel
theorem dX8_down_8 : decode cX8_down 8 = .ok (.iload_n 2, 1) := by decide +kernel
theorem dX8_down_9 : decode cX8_down 9 = .ok (.iconst (-1), 1) := by decide +kernel
theorem dX8_down_10 : decode cX8_down 10 = .ok (.if_icmp .eq 11, 3) := by decide +kernel
theorem dX8_down_13 : decode cX8_down 13 = .ok (.aload_n 0, 1) := by decide +kernel
theorem dX8_down_14 : decode cX8_down 14 = .ok (.iload_n 2, 1) := by decide +kernel
theorem dX8_down_15 : decode cX8_down 15 = .ok (.invokevirtual 146, 3) := by decide +kernel
theorem dX8_down_18 : decode cX8_down 18 = .ok (.ifCond .eq 17, 3) := by decide +kernel
theorem dX8_down_21 : decode cX8_down 21 = .ok (.iload_n 3, 1) := by decide +kernel
theorem dX8_down_22 : decode cX8_down 22 = .ok (.iconst 0, 1) := by decide +kernel
theorem dX8_down_23 : decode cX8_down 23 = .ok (.aload_n 0, 1) := by decide +kernel
theorem dX8_down_24 : decode cX8_down 24 = .ok (.getfield 43, 3) := by decide +kernel
theorem dX8_down_27 : decode cX8_down 27 = .ok (.iconst 1, 1) := by decide +kernel
theorem dX8_down_28 : decode cX8_down 28 = .ok (.isub, 1) := by decide +kernel
theorem dX8_down_29 : decode cX8_down 29 = .ok (.invokestatic 132, 3) := by decide +kernel
theorem dX8_down_32 : decode cX8_down 32 = .ok (.ifCond .ne 6, 3) := by decide +kernel
theorem dX8_down_35 : decode cX8_down 35 = .ok (.bipush (-2), 2) := by decide +kernel
theorem dX8_down_37 : decode cX8_down 37 = .ok (.ireturn, 1) := by decide +kernel
theorem dX8_down_38 : decode cX8_down 38 = .ok (.aload_n 0, 1) := by decide +kernel
theorem dX8_down_39 : decode cX8_down 39 = .ok (.iload_n 1, 1) := by decide +kernel
theorem dX8_down_40 : decode cX8_down 40 = .ok (.aload_n 0, 1) := by decide +kernel
theorem dX8_down_41 : decode cX8_down 41 = .ok (.getfield 143, 3) := by decide +kernel
theorem dX8_down_44 : decode cX8_down 44 = .ok (.invokevirtual 292, 3) := by decide +kernel
theorem dX8_down_47 : decode cX8_down 47 = .ok (.iconst 0, 1) := by decide +kernel
theorem dX8_down_48 : decode cX8_down 48 = .ok (.istore 4, 2) := by decide +kernel
theorem dX8_down_50 : decode cX8_down 50 = .ok (.iconst 0, 1) := by decide +kernel
theorem dX8_down_51 : decode cX8_down 51 = .ok (.istore 5, 2) := by decide +kernel
theorem dX8_down_53 : decode cX8_down 53 = .ok (.iload 5, 2) := by decide +kernel
theorem dX8_down_55 : decode cX8_down 55 = .ok (.aload_n 0, 1) := by decide +kernel
theorem dX8_down_56 : decode cX8_down 56 = .ok (.getfield 129, 3) := by decide +kernel
theorem dX8_down_59 : decode cX8_down 59 = .ok (.if_icmp .ge 37, 3) := by decide +kernel
theorem dX8_down_62 : decode cX8_down 62 = .ok (.iload_n 2, 1) := by decide +kernel
theorem dX8_down_63 : decode cX8_down 63 = .ok (.iconst (-1), 1) := by decide +kernel
theorem dX8_down_64 : decode cX8_down 64 = .ok (.if_icmp .eq 9, 3) := by decide +kernel
theorem dX8_down_67 : decode cX8_down 67 = .ok (.iload 5, 2) := by decide +kernel
theorem dX8_down_69 : decode cX8_down 69 = .ok (.iload_n 2, 1) := by decide +kernel
theorem dX8_down_70 : decode cX8_down 70 = .ok (.if_icmp .ne 20, 3) := by decide +kernel
theorem dX8_down_73 : decode cX8_down 73 = .ok (.iload 4, 2) := by decide +kernel
theorem dX8_down_75 : decode cX8_down 75 = .ok (.aload_n 0, 1) := by decide +kernel
theorem dX8_down_76 : decode cX8_down 76 = .ok (.getfield 93, 3) := by decide +kernel
theorem dX8_down_79 : decode cX8_down 79 = .ok (.bipush 120, 2) := by decide +kernel
theorem dX8_down_81 : decode cX8_down 81 = .ok (.iload 5, 2) := by decide +kernel
theorem dX8_down_83 : decode cX8_down 83 = .ok (.imul, 1) := by decide +kernel
theorem dX8_down_84 : decode cX8_down 84 = .ok (.iload_n 3, 1) := by decide +kernel
theorem dX8_down_85 : decode cX8_down 85 = .ok (.iadd, 1) := by decide +kernel
theorem dX8_down_86 : decode cX8_down 86 = .ok (.iaload, 1) := by decide +kernel
theorem dX8_down_87 : decode cX8_down 87 = .ok (.iadd, 1) := by decide +kernel
theorem dX8_down_88 : decode cX8_down 88 = .ok (.istore 4, 2) := by decide +kernel
theorem dX8_down_90 : decode cX8_down 90 = .ok (.iinc 5 1, 3) := by decide +kernel
theorem dX8_down_93 : decode cX8_down 93 = .ok (.goto (-40), 3) := by decide +kernel
theorem dX8_down_96 : decode cX8_down 96 = .ok (.iload 4, 2) := by decide +kernel
theorem dX8_down_98 : decode cX8_down 98 = .ok (.ireturn, 1) := by decide +kernel
theorem dX8_behind_0 : decode cX8_behind 0 = .ok (.aload_n 0, 1) := by decide +kernel
theorem dX8_behind_1 : decode cX8_behind 1 = .ok (.iload_n 1, 1) := by decide +kernel
theorem dX8_behind_2 : decode cX8_behind 2 = .ok (.invokevirtual 152, 3) := by decide +kernel
theorem dX8_behind_5 : decode cX8_behind 5 = .ok (.ifCond .eq 14, 3) := by decide +kernel
theorem dX8_behind_8 : decode cX8_behind 8 = .ok (.iload_n 2, 1) := by decide +kernel
theorem dX8_behind_9 : decode cX8_behind 9 = .ok (.iconst 0, 1) := by decide +kernel
theorem dX8_behind_10 : decode cX8_behind 10 = .ok (.sipush 2400, 3) := by decide +kernel
theorem dX8_behind_13 : decode cX8_behind 13 = .ok (.invokestatic 132, 3) := by decide +kernel
theorem dX8_behind_16 : decode cX8_behind 16 = .ok (.ifCond .ne 6, 3) := by decide +kernel
theorem dX8_behind_19 : decode cX8_behind 19 = .ok (.bipush (-2), 2) := by decide +kernel
theorem dX8_behind_21 : decode cX8_behind 21 = .ok (.ireturn, 1) := by decide +kernel
theorem dX8_behind_22 : decode cX8_behind 22 = .ok (.aload_n 0, 1) := by decide +kernel
theorem dX8_behind_23 : decode cX8_behind 23 = .ok (.iload_n 1, 1) := by decide +kernel
theorem dX8_behind_24 : decode cX8_behind 24 = .ok (.aload_n 0, 1) := by decide +kernel
theorem dX8_behind_25 : decode cX8_behind 25 = .ok (.getfield 143, 3) := by decide +kernel
theorem dX8_behind_28 : decode cX8_behind 28 = .ok (.invokevirtual 292, 3) := by decide +kernel
theorem dX8_behind_31 : decode cX8_behind 31 = .ok (.iconst 0, 1) := by decide +kernel
theorem dX8_behind_32 : decode cX8_behind 32 = .ok (.istore_n 3, 1) := by decide +kernel
theorem dX8_behind_33 : decode cX8_behind 33 = .ok (.iload_n 3, 1) := by decide +kernel
theorem dX8_behind_34 : decode cX8_behind 34 = .ok (.aload_n 0, 1) := by decide +kernel
theorem dX8_behind_35 : decode cX8_behind 35 = .ok (.getfield 43, 3) := by decide +kernel
theorem dX8_behind_38 : decode cX8_behind 38 = .ok (.if_icmp .ge 55, 3) := by decide +kernel
theorem dX8_behind_41 : decode cX8_behind 41 = .ok (.iconst 0, 1) := by decide +kernel
theorem dX8_behind_42 : decode cX8_behind 42 = .ok (.istore 4, 2) := by decide +kernel
theorem dX8_behind_44 : decode cX8_behind 44 = .ok (.iconst 0, 1) := by decide +kernel
theorem dX8_behind_45 : decode cX8_behind 45 = .ok (.istore 5, 2) := by decide +kernel
theorem dX8_behind_47 : decode cX8_behind 47 = .ok (.iload 5, 2) := by decide +kernel
theorem dX8_behind_49 : decode cX8_behind 49 = .ok (.aload_n 0, 1) := by decide +kernel
theorem dX8_behind_50 : decode cX8_behind 50 = .ok (.getfield 129, 3) := by decide +kernel
theorem dX8_behind_53 : decode cX8_behind 53 = .ok (.if_icmp .ge 26, 3) := by decide +kernel
theorem dX8_behind_56 : decode cX8_behind 56 = .ok (.iload 4, 2) := by decide +kernel
theorem dX8_behind_58 : decode cX8_behind 58 = .ok (.aload_n 0, 1) := by decide +kernel
theorem dX8_behind_59 : decode cX8_behind 59 = .ok (.getfield 93, 3) := by decide +kernel
theorem dX8_behind_62 : decode cX8_behind 62 = .ok (.bipush 120, 2) := by decide +kernel
theorem dX8_behind_64 : decode cX8_behind 64 = .ok (.iload 5, 2) := by decide +kernel
theorem dX8_behind_66 : decode cX8_behind 66 = .ok (.imul, 1) := by decide +kernel
theorem dX8_behind_67 : decode cX8_behind 67 = .ok (.iload_n 3, 1) := by decide +kernel
theorem dX8_behind_68 : decode cX8_behind 68 = .ok (.iadd, 1) := by decide +kernel
theorem dX8_behind_69 : decode cX8_behind 69 = .ok (.iaload, 1) := by decide +kernel
theorem dX8_behind_70 : decode cX8_behind 70 = .ok (.iadd, 1) := by decide +kernel
theorem dX8_behind_71 : decode cX8_behind 71 = .ok (.istore 4, 2) := by decide +kernel
theorem dX8_behind_73 : decode cX8_behind 73 = .ok (.iinc 5 1, 3) := by decide +kernel
theorem dX8_behind_76 : decode cX8_behind 76 = .ok (.goto (-29), 3) := by decide +kernel
theorem dX8_behind_79 : decode cX8_behind 79 = .ok (.iload 4, 2) := by decide +kernel
theorem dX8_behind_81 : decode cX8_behind 81 = .ok (.iload_n 2, 1) := by decide +kernel
theorem dX8_behind_82 : decode cX8_behind 82 = .ok (.if_icmp .lt 5, 3) := by decide +kernel
theorem dX8_behind_85 : decode cX8_behind 85 = .ok (.iload_n 3, 1) := by decide +kernel
theorem dX8_behind_86 : decode cX8_behind 86 = .ok (.ireturn, 1) := by decide +kernel
theorem dX8_behind_87 : decode cX8_behind 87 = .ok (.iinc 3 1, 3) := by decide +kernel
theorem dX8_behind_90 : decode cX8_behind 90 = .ok (.goto (-57), 3) := by decide +kernel
theorem dX8_behind_93 : decode cX8_behind 93 = .ok (.iconst (-1), 1) := by decide +kernel
theorem dX8_behind_94 : decode cX8_behind 94 = .ok (.ireturn, 1) := by decide +kernel
theorem dX8_latest_0 : decode cX8_latest 0 = .ok (.aload_n 0, 1) := by decide +kernel
theorem dX8_latest_1 : decode cX8_latest 1 = .ok (.iload_n 1, 1) := by decide +kernel
theorem dX8_latest_2 : decode cX8_latest 2 = .ok (.invokevirtual 152, 3) := by decide +kernel
theorem dX8_latest_5 : decode cX8_latest 5 = .ok (.ifCond .eq 14, 3) := by decide +kernel
theorem dX8_latest_8 : decode cX8_latest 8 = .ok (.iload_n 2, 1) := by decide +kernel
theorem dX8_latest_9 : decode cX8_latest 9 = .ok (.iconst 0, 1) := by decide +kernel
theorem dX8_latest_10 : decode cX8_latest 10 = .ok (.sipush 2400, 3) := by decide +kernel
theorem dX8_latest_13 : decode cX8_latest 13 = .ok (.invokestatic 132, 3) := by decide +kernel
theorem dX8_latest_16 : decode cX8_latest 16 = .ok (.ifCond .ne 6, 3) := by decide +kernel
theorem dX8_latest_19 : decode cX8_latest 19 = .ok (.bipush (-2), 2) := by decide +kernel
theorem dX8_latest_21 : decode cX8_latest 21 = .ok (.ireturn, 1) := by decide +kernel
theorem dX8_latest_22 : decode cX8_latest 22 = .ok (.aload_n 0, 1) := by decide +kernel
theorem dX8_latest_23 : decode cX8_latest 23 = .ok (.getfield 34, 3) := by decide +kernel
theorem dX8_latest_26 : decode cX8_latest 26 = .ok (.iload_n 1, 1) := by decide +kernel
theorem dX8_latest_27 : decode cX8_latest 27 = .ok (.iaload, 1) := by decide +kernel
theorem dX8_latest_28 : decode cX8_latest 28 = .ok (.istore_n 3, 1) := by decide +kernel
theorem dX8_latest_29 : decode cX8_latest 29 = .ok (.iconst (-1), 1) := by decide +kernel
theorem dX8_latest_30 : decode cX8_latest 30 = .ok (.istore 4, 2) := by decide +kernel
theorem dX8_latest_32 : decode cX8_latest 32 = .ok (.aload_n 0, 1) := by decide +kernel
theorem dX8_latest_33 : decode cX8_latest 33 = .ok (.getfield 43, 3) := by decide +kernel
theorem dX8_latest_36 : decode cX8_latest 36 = .ok (.iconst 1, 1) := by decide +kernel
theorem dX8_latest_37 : decode cX8_latest 37 = .ok (.isub, 1) := by decide +kernel
theorem dX8_latest_38 : decode cX8_latest 38 = .ok (.istore 5, 2) := by decide +kernel
theorem dX8_latest_40 : decode cX8_latest 40 = .ok (.iload 5, 2) := by decide +kernel
theorem dX8_latest_42 : decode cX8_latest 42 = .ok (.ifCond .lt 43, 3) := by decide +kernel
theorem dX8_latest_45 : decode cX8_latest 45 = .ok (.iload 4, 2) := by decide +kernel
theorem dX8_latest_47 : decode cX8_latest 47 = .ok (.ifCond .ge 38, 3) := by decide +kernel
theorem dX8_latest_50 : decode cX8_latest 50 = .ok (.aload_n 0, 1) := by decide +kernel
theorem dX8_latest_51 : decode cX8_latest 51 = .ok (.getfield 34, 3) := by decide +kernel
theorem dX8_latest_54 : decode cX8_latest 54 = .ok (.iload_n 1, 1) := by decide +kernel
theorem dX8_latest_55 : decode cX8_latest 55 = .ok (.iload 5, 2) := by decide +kernel
theorem dX8_latest_57 : decode cX8_latest 57 = .ok (.iastore, 1) := by decide +kernel
theorem dX8_latest_58 : decode cX8_latest 58 = .ok (.aload_n 0, 1) := by decide +kernel
theorem dX8_latest_59 : decode cX8_latest 59 = .ok (.iload_n 1, 1) := by decide +kernel
theorem dX8_latest_60 : decode cX8_latest 60 = .ok (.aload_n 0, 1) := by decide +kernel
theorem dX8_latest_61 : decode cX8_latest 61 = .ok (.getfield 143, 3) := by decide +kernel
theorem dX8_latest_64 : decode cX8_latest 64 = .ok (.invokevirtual 292, 3) := by decide +kernel
theorem dX8_latest_67 : decode cX8_latest 67 = .ok (.aload_n 0, 1) := by decide +kernel
theorem dX8_latest_68 : decode cX8_latest 68 = .ok (.invokevirtual 295, 3) := by decide +kernel
theorem dX8_latest_71 : decode cX8_latest 71 = .ok (.iload_n 2, 1) := by decide +kernel
theorem dX8_latest_72 : decode cX8_latest 72 = .ok (.if_icmp .gt 7, 3) := by decide +kernel
theorem dX8_latest_75 : decode cX8_latest 75 = .ok (.iload 5, 2) := by decide +kernel
theorem dX8_latest_77 : decode cX8_latest 77 = .ok (.istore 4, 2) := by decide +kernel
theorem dX8_latest_79 : decode cX8_latest 79 = .ok (.iinc 5 (-1), 3) := by decide +kernel
theorem dX8_latest_82 : decode cX8_latest 82 = .ok (.goto (-42), 3) := by decide +kernel
theorem dX8_latest_85 : decode cX8_latest 85 = .ok (.aload_n 0, 1) := by decide +kernel
theorem dX8_latest_86 : decode cX8_latest 86 = .ok (.getfield 34, 3) := by decide +kernel
theorem dX8_latest_89 : decode cX8_latest 89 = .ok (.iload_n 1, 1) := by decide +kernel
theorem dX8_latest_90 : decode cX8_latest 90 = .ok (.iload_n 3, 1) := by decide +kernel
theorem dX8_latest_91 : decode cX8_latest 91 = .ok (.iastore, 1) := by decide +kernel
theorem dX8_latest_92 : decode cX8_latest 92 = .ok (.iload 4, 2) := by decide +kernel
theorem dX8_latest_94 : decode cX8_latest 94 = .ok (.ireturn, 1) := by decide +kernel
theorem dX8_more_0 : decode cX8_more 0 = .ok (.aload_n 0, 1) := by decide +kernel
theorem dX8_more_1 : decode cX8_more 1 = .ok (.iload_n 1, 1) := by decide +kernel
theorem dX8_more_2 : decode cX8_more 2 = .ok (.invokevirtual 152, 3) := by decide +kernel
theorem dX8_more_5 : decode cX8_more 5 = .ok (.ifCond .eq 21, 3) := by decide +kernel
theorem dX8_more_8 : decode cX8_more 8 = .ok (.iload_n 2, 1) := by decide +kernel
theorem dX8_more_9 : decode cX8_more 9 = .ok (.iconst 0, 1) := by decide +kernel
theorem dX8_more_10 : decode cX8_more 10 = .ok (.sipush 2400, 3) := by decide +kernel
theorem dX8_more_13 : decode cX8_more 13 = .ok (.invokestatic 132, 3) := by decide +kernel
theorem dX8_more_16 : decode cX8_more 16 = .ok (.ifCond .eq 10, 3) := by decide +kernel
theorem dX8_more_19 : decode cX8_more 19 = .ok (.aload_n 0, 1) := by decide +kernel
theorem dX8_more_20 : decode cX8_more 20 = .ok (.getfield 143, 3) := by decide +kernel
theorem dX8_more_23 : decode cX8_more 23 = .ok (.ifCond .ne 6, 3) := by decide +kernel
theorem dX8_more_26 : decode cX8_more 26 = .ok (.bipush (-2), 2) := by decide +kernel
theorem dX8_more_28 : decode cX8_more 28 = .ok (.ireturn, 1) := by decide +kernel
theorem dX8_more_29 : decode cX8_more 29 = .ok (.iconst 0, 1) := by decide +kernel
theorem dX8_more_30 : decode cX8_more 30 = .ok (.istore_n 3, 1) := by decide +kernel
theorem dX8_more_31 : decode cX8_more 31 = .ok (.iload_n 3, 1) := by decide +kernel
theorem dX8_more_32 : decode cX8_more 32 = .ok (.bipush 20, 2) := by decide +kernel
theorem dX8_more_34 : decode cX8_more 34 = .ok (.if_icmp .gt 91, 3) := by decide +kernel
theorem dX8_more_37 : decode cX8_more 37 = .ok (.iload_n 3, 1) := by decide +kernel
theorem dX8_more_38 : decode cX8_more 38 = .ok (.ifCond .le 60, 3) := by decide +kernel
theorem dX8_more_41 : decode cX8_more 41 = .ok (.aload_n 0, 1) := by decide +kernel
theorem dX8_more_42 : decode cX8_more 42 = .ok (.getfield 22, 3) := by decide +kernel
theorem dX8_more_45 : decode cX8_more 45 = .ok (.aload_n 0, 1) := by decide +kernel
theorem dX8_more_46 : decode cX8_more 46 = .ok (.getfield 143, 3) := by decide +kernel
theorem dX8_more_49 : decode cX8_more 49 = .ok (.iload_n 3, 1) := by decide +kernel
theorem dX8_more_50 : decode cX8_more 50 = .ok (.iadd, 1) := by decide +kernel
theorem dX8_more_51 : decode cX8_more 51 = .ok (.iconst 1, 1) := by decide +kernel
theorem dX8_more_52 : decode cX8_more 52 = .ok (.isub, 1) := by decide +kernel
theorem dX8_more_53 : decode cX8_more 53 = .ok (.aload_n 0, 1) := by decide +kernel
theorem dX8_more_54 : decode cX8_more 54 = .ok (.getfield 22, 3) := by decide +kernel
theorem dX8_more_57 : decode cX8_more 57 = .ok (.iconst 0, 1) := by decide +kernel
theorem dX8_more_58 : decode cX8_more 58 = .ok (.iaload, 1) := by decide +kernel
theorem dX8_more_59 : decode cX8_more 59 = .ok (.iastore, 1) := by decide +kernel
theorem dX8_more_60 : decode cX8_more 60 = .ok (.aload_n 0, 1) := by decide +kernel
theorem dX8_more_61 : decode cX8_more 61 = .ok (.getfield 25, 3) := by decide +kernel
theorem dX8_more_64 : decode cX8_more 64 = .ok (.aload_n 0, 1) := by decide +kernel
theorem dX8_more_65 : decode cX8_more 65 = .ok (.getfield 143, 3) := by decide +kernel
theorem dX8_more_68 : decode cX8_more 68 = .ok (.iload_n 3, 1) := by decide +kernel
theorem dX8_more_69 : decode cX8_more 69 = .ok (.iadd, 1) := by decide +kernel
theorem dX8_more_70 : decode cX8_more 70 = .ok (.iconst 1, 1) := by decide +kernel
theorem dX8_more_71 : decode cX8_more 71 = .ok (.isub, 1) := by decide +kernel
theorem dX8_more_72 : decode cX8_more 72 = .ok (.aload_n 0, 1) := by decide +kernel
theorem dX8_more_73 : decode cX8_more 73 = .ok (.getfield 25, 3) := by decide +kernel
theorem dX8_more_76 : decode cX8_more 76 = .ok (.iconst 0, 1) := by decide +kernel
theorem dX8_more_77 : decode cX8_more 77 = .ok (.iaload, 1) := by decide +kernel
theorem dX8_more_78 : decode cX8_more 78 = .ok (.iastore, 1) := by decide +kernel
theorem dX8_more_79 : decode cX8_more 79 = .ok (.aload_n 0, 1) := by decide +kernel
theorem dX8_more_80 : decode cX8_more 80 = .ok (.getfield 28, 3) := by decide +kernel
theorem dX8_more_83 : decode cX8_more 83 = .ok (.aload_n 0, 1) := by decide +kernel
theorem dX8_more_84 : decode cX8_more 84 = .ok (.getfield 143, 3) := by decide +kernel
theorem dX8_more_87 : decode cX8_more 87 = .ok (.iload_n 3, 1) := by decide +kernel
theorem dX8_more_88 : decode cX8_more 88 = .ok (.iadd, 1) := by decide +kernel
theorem dX8_more_89 : decode cX8_more 89 = .ok (.iconst 1, 1) := by decide +kernel
theorem dX8_more_90 : decode cX8_more 90 = .ok (.isub, 1) := by decide +kernel
theorem dX8_more_91 : decode cX8_more 91 = .ok (.aload_n 0, 1) := by decide +kernel
theorem dX8_more_92 : decode cX8_more 92 = .ok (.getfield 28, 3) := by decide +kernel
theorem dX8_more_95 : decode cX8_more 95 = .ok (.iconst 0, 1) := by decide +kernel
theorem dX8_more_96 : decode cX8_more 96 = .ok (.iaload, 1) := by decide +kernel
theorem dX8_more_97 : decode cX8_more 97 = .ok (.iastore, 1) := by decide +kernel
theorem dX8_more_98 : decode cX8_more 98 = .ok (.aload_n 0, 1) := by decide +kernel
theorem dX8_more_99 : decode cX8_more 99 = .ok (.iload_n 1, 1) := by decide +kernel
theorem dX8_more_100 : decode cX8_more 100 = .ok (.aload_n 0, 1) := by decide +kernel
theorem dX8_more_101 : decode cX8_more 101 = .ok (.getfield 143, 3) := by decide +kernel
theorem dX8_more_104 : decode cX8_more 104 = .ok (.iload_n 3, 1) := by decide +kernel
theorem dX8_more_105 : decode cX8_more 105 = .ok (.iadd, 1) := by decide +kernel
theorem dX8_more_106 : decode cX8_more 106 = .ok (.invokevirtual 292, 3) := by decide +kernel
theorem dX8_more_109 : decode cX8_more 109 = .ok (.aload_n 0, 1) := by decide +kernel
theorem dX8_more_110 : decode cX8_more 110 = .ok (.invokevirtual 295, 3) := by decide +kernel
theorem dX8_more_113 : decode cX8_more 113 = .ok (.iload_n 2, 1) := by decide +kernel
theorem dX8_more_114 : decode cX8_more 114 = .ok (.if_icmp .gt 5, 3) := by decide +kernel
theorem dX8_more_117 : decode cX8_more 117 = .ok (.iload_n 3, 1) := by decide +kernel
theorem dX8_more_118 : decode cX8_more 118 = .ok (.ireturn, 1) := by decide +kernel
theorem dX8_more_119 : decode cX8_more 119 = .ok (.iinc 3 1, 3) := by decide +kernel
theorem dX8_more_122 : decode cX8_more 122 = .ok (.goto (-91), 3) := by decide +kernel
theorem dX8_more_125 : decode cX8_more 125 = .ok (.iconst (-1), 1) := by decide +kernel
theorem dX8_more_126 : decode cX8_more 126 = .ok (.ireturn, 1) := by decide +kernel
theorem dX8_choose_0 : decode cX8_choose 0 = .ok (.iload_n 1, 1) := by decide +kernel
theorem dX8_choose_1 : decode cX8_choose 1 = .ok (.iconst 0, 1) := by decide +kernel
theorem dX8_choose_2 : decode cX8_choose 2 = .ok (.iconst 1, 1) := by decide +kernel
theorem dX8_choose_3 : decode cX8_choose 3 = .ok (.invokestatic 132, 3) := by decide +kernel
theorem dX8_choose_6 : decode cX8_choose 6 = .ok (.ifCond .eq 10, 3) := by decide +kernel
theorem dX8_choose_9 : decode cX8_choose 9 = .ok (.aload_n 0, 1) := by decide +kernel
theorem dX8_choose_10 : decode cX8_choose 10 = .ok (.getfield 136, 3) := by decide +kernel
theorem dX8_choose_13 : decode cX8_choose 13 = .ok (.ifCond .ne 7, 3) := by decide +kernel
theorem dX8_choose_16 : decode cX8_choose 16 = .ok (.ldc2_w 302, 3) := by decide +kernel
theorem dX8_choose_19 : decode cX8_choose 19 = .ok (.lreturn, 1) := by decide +kernel
theorem dX8_choose_20 : decode cX8_choose 20 = .ok (.iconst 0, 1) := by decide +kernel
theorem dX8_choose_21 : decode cX8_choose 21 = .ok (.istore_n 2, 1) := by decide +kernel
theorem dX8_choose_22 : decode cX8_choose 22 = .ok (.lconst 0, 1) := by decide +kernel
theorem dX8_choose_23 : decode cX8_choose 23 = .ok (.lstore_n 3, 1) := by decide +kernel
theorem dX8_choose_24 : decode cX8_choose 24 = .ok (.iconst 0, 1) := by decide +kernel
theorem dX8_choose_25 : decode cX8_choose 25 = .ok (.istore 5, 2) := by decide +kernel
theorem dX8_choose_27 : decode cX8_choose 27 = .ok (.iload 5, 2) := by decide +kernel
theorem dX8_choose_29 : decode cX8_choose 29 = .ok (.aload_n 0, 1) := by decide +kernel
theorem dX8_choose_30 : decode cX8_choose 30 = .ok (.getfield 136, 3) := by decide +kernel
theorem dX8_choose_33 : decode cX8_choose 33 = .ok (.if_icmp .ge 38, 3) := by decide +kernel
theorem dX8_choose_36 : decode cX8_choose 36 = .ok (.aload_n 0, 1) := by decide +kernel
theorem dX8_choose_37 : decode cX8_choose 37 = .ok (.iload 5, 2) := by decide +kernel
theorem dX8_choose_39 : decode cX8_choose 39 = .ok (.invokevirtual 298, 3) := by decide +kernel
theorem dX8_choose_42 : decode cX8_choose 42 = .ok (.lstore 6, 2) := by decide +kernel
theorem dX8_choose_44 : decode cX8_choose 44 = .ok (.iload 5, 2) := by decide +kernel
theorem dX8_choose_46 : decode cX8_choose 46 = .ok (.ifCond .le 13, 3) := by decide +kernel
theorem dX8_choose_49 : decode cX8_choose 49 = .ok (.lload 6, 2) := by decide +kernel
theorem dX8_choose_51 : decode cX8_choose 51 = .ok (.lload_n 3, 1) := by decide +kernel
theorem dX8_choose_52 : decode cX8_choose 52 = .ok (.lcmp, 1) := by decide +kernel
theorem dX8_choose_53 : decode cX8_choose 53 = .ok (.ifCond .lt 6, 3) := by decide +kernel
theorem dX8_choose_56 : decode cX8_choose 56 = .ok (.goto 9, 3) := by decide +kernel
theorem dX8_choose_59 : decode cX8_choose 59 = .ok (.iload 5, 2) := by decide +kernel
theorem dX8_choose_61 : decode cX8_choose 61 = .ok (.istore_n 2, 1) := by decide +kernel
theorem dX8_choose_62 : decode cX8_choose 62 = .ok (.lload 6, 2) := by decide +kernel
theorem dX8_choose_64 : decode cX8_choose 64 = .ok (.lstore_n 3, 1) := by decide +kernel
theorem dX8_choose_65 : decode cX8_choose 65 = .ok (.iinc 5 1, 3) := by decide +kernel
theorem dX8_choose_68 : decode cX8_choose 68 = .ok (.goto (-41), 3) := by decide +kernel
theorem dX8_choose_71 : decode cX8_choose 71 = .ok (.iload_n 1, 1) := by decide +kernel
theorem dX8_choose_72 : decode cX8_choose 72 = .ok (.ifCond .ne 8, 3) := by decide +kernel
theorem dX8_choose_75 : decode cX8_choose 75 = .ok (.iload_n 2, 1) := by decide +kernel
theorem dX8_choose_76 : decode cX8_choose 76 = .ok (.i2l, 1) := by decide +kernel
theorem dX8_choose_77 : decode cX8_choose 77 = .ok (.goto 4, 3) := by decide +kernel
theorem dX8_choose_80 : decode cX8_choose 80 = .ok (.lload_n 3, 1) := by decide +kernel
theorem dX8_choose_81 : decode cX8_choose 81 = .ok (.lreturn, 1) := by decide +kernel
theorem dX8_must_0 : decode cX8_must 0 = .ok (.iconst 0, 1) := by decide +kernel
theorem dX8_must_1 : decode cX8_must 1 = .ok (.istore_n 1, 1) := by decide +kernel
theorem dX8_must_2 : decode cX8_must 2 = .ok (.iconst 0, 1) := by decide +kernel
theorem dX8_must_3 : decode cX8_must 3 = .ok (.istore_n 2, 1) := by decide +kernel
theorem dX8_must_4 : decode cX8_must 4 = .ok (.iload_n 2, 1) := by decide +kernel
theorem dX8_must_5 : decode cX8_must 5 = .ok (.aload_n 0, 1) := by decide +kernel
theorem dX8_must_6 : decode cX8_must 6 = .ok (.getfield 143, 3) := by decide +kernel
theorem dX8_must_9 : decode cX8_must 9 = .ok (.if_icmp .ge 43, 3) := by decide +kernel
theorem dX8_must_12 : decode cX8_must 12 = .ok (.iconst 0, 1) := by decide +kernel
theorem dX8_must_13 : decode cX8_must 13 = .ok (.istore_n 3, 1) := by decide +kernel
theorem dX8_must_14 : decode cX8_must 14 = .ok (.iload_n 3, 1) := by decide +kernel
theorem dX8_must_15 : decode cX8_must 15 = .ok (.aload_n 0, 1) := by decide +kernel
theorem dX8_must_16 : decode cX8_must 16 = .ok (.getfield 43, 3) := by decide +kernel
theorem dX8_must_19 : decode cX8_must 19 = .ok (.if_icmp .ge 27, 3) := by decide +kernel
theorem dX8_must_22 : decode cX8_must 22 = .ok (.aload_n 0, 1) := by decide +kernel
theorem dX8_must_23 : decode cX8_must 23 = .ok (.iload_n 2, 1) := by decide +kernel
theorem dX8_must_24 : decode cX8_must 24 = .ok (.iload_n 3, 1) := by decide +kernel
theorem dX8_must_25 : decode cX8_must 25 = .ok (.invokevirtual 269, 3) := by decide +kernel
theorem dX8_must_28 : decode cX8_must 28 = .ok (.ifCond .eq 12, 3) := by decide +kernel
theorem dX8_must_31 : decode cX8_must 31 = .ok (.iload_n 1, 1) := by decide +kernel
theorem dX8_must_32 : decode cX8_must 32 = .ok (.aload_n 0, 1) := by decide +kernel
theorem dX8_must_33 : decode cX8_must 33 = .ok (.getfield 22, 3) := by decide +kernel
theorem dX8_must_36 : decode cX8_must 36 = .ok (.iload_n 2, 1) := by decide +kernel
theorem dX8_must_37 : decode cX8_must 37 = .ok (.iaload, 1) := by decide +kernel
theorem dX8_must_38 : decode cX8_must 38 = .ok (.iadd, 1) := by decide +kernel
theorem dX8_must_39 : decode cX8_must 39 = .ok (.istore_n 1, 1) := by decide +kernel
theorem dX8_must_40 : decode cX8_must 40 = .ok (.iinc 3 1, 3) := by decide +kernel
theorem dX8_must_43 : decode cX8_must 43 = .ok (.goto (-29), 3) := by decide +kernel
theorem dX8_must_46 : decode cX8_must 46 = .ok (.iinc 2 1, 3) := by decide +kernel
theorem dX8_must_49 : decode cX8_must 49 = .ok (.goto (-45), 3) := by decide +kernel
theorem dX8_must_52 : decode cX8_must 52 = .ok (.iconst 0, 1) := by decide +kernel
theorem dX8_must_53 : decode cX8_must 53 = .ok (.istore_n 2, 1) := by decide +kernel
theorem dX8_must_54 : decode cX8_must 54 = .ok (.iload_n 2, 1) := by decide +kernel
theorem dX8_must_55 : decode cX8_must 55 = .ok (.aload_n 0, 1) := by decide +kernel
theorem dX8_must_56 : decode cX8_must 56 = .ok (.getfield 129, 3) := by decide +kernel
theorem dX8_must_59 : decode cX8_must 59 = .ok (.if_icmp .ge 18, 3) := by decide +kernel
theorem dX8_must_62 : decode cX8_must 62 = .ok (.iload_n 1, 1) := by decide +kernel
theorem dX8_must_63 : decode cX8_must 63 = .ok (.aload_n 0, 1) := by decide +kernel
theorem dX8_must_64 : decode cX8_must 64 = .ok (.getfield 7, 3) := by decide +kernel
theorem dX8_must_67 : decode cX8_must 67 = .ok (.iload_n 2, 1) := by decide +kernel
theorem dX8_must_68 : decode cX8_must 68 = .ok (.iaload, 1) := by decide +kernel
theorem dX8_must_69 : decode cX8_must 69 = .ok (.isub, 1) := by decide +kernel
theorem dX8_must_70 : decode cX8_must 70 = .ok (.istore_n 1, 1) := by decide +kernel
theorem dX8_must_71 : decode cX8_must 71 = .ok (.iinc 2 1, 3) := by decide +kernel
theorem dX8_must_74 : decode cX8_must 74 = .ok (.goto (-20), 3) := by decide +kernel
theorem dX8_must_77 : decode cX8_must 77 = .ok (.iload_n 1, 1) := by decide +kernel
theorem dX8_must_78 : decode cX8_must 78 = .ok (.ireturn, 1) := by decide +kernel
theorem dX8_latestUp_0 : decode cX8_latestUp 0 = .ok (.aload_n 0, 1) := by decide +kernel
theorem dX8_latestUp_1 : decode cX8_latestUp 1 = .ok (.iload_n 1, 1) := by decide +kernel
theorem dX8_latestUp_2 : decode cX8_latestUp 2 = .ok (.invokevirtual 146, 3) := by decide +kernel
theorem dX8_latestUp_5 : decode cX8_latestUp 5 = .ok (.ifCond .ne 6, 3) := by decide +kernel
theorem dX8_latestUp_8 : decode cX8_latestUp 8 = .ok (.bipush (-2), 2) := by decide +kernel
theorem dX8_latestUp_10 : decode cX8_latestUp 10 = .ok (.ireturn, 1) := by decide +kernel
theorem dX8_latestUp_11 : decode cX8_latestUp 11 = .ok (.iconst (-1), 1) := by decide +kernel
theorem dX8_latestUp_12 : decode cX8_latestUp 12 = .ok (.istore_n 2, 1) := by decide +kernel
theorem dX8_latestUp_13 : decode cX8_latestUp 13 = .ok (.iconst 0, 1) := by decide +kernel
theorem dX8_latestUp_14 : decode cX8_latestUp 14 = .ok (.istore_n 3, 1) := by decide +kernel
theorem dX8_latestUp_15 : decode cX8_latestUp 15 = .ok (.iload_n 3, 1) := by decide +kernel
theorem dX8_latestUp_16 : decode cX8_latestUp 16 = .ok (.aload_n 0, 1) := by decide +kernel
theorem dX8_latestUp_17 : decode cX8_latestUp 17 = .ok (.getfield 143, 3) := by decide +kernel
theorem dX8_latestUp_20 : decode cX8_latestUp 20 = .ok (.if_icmp .ge 46, 3) := by decide +kernel
theorem dX8_latestUp_23 : decode cX8_latestUp 23 = .ok (.iconst 0, 1) := by decide +kernel
theorem dX8_latestUp_24 : decode cX8_latestUp 24 = .ok (.istore 4, 2) := by decide +kernel
theorem dX8_latestUp_26 : decode cX8_latestUp 26 = .ok (.iload 4, 2) := by decide +kernel
theorem dX8_latestUp_28 : decode cX8_latestUp 28 = .ok (.aload_n 0, 1) := by decide +kernel
theorem dX8_latestUp_29 : decode cX8_latestUp 29 = .ok (.getfield 43, 3) := by decide +kernel
theorem dX8_latestUp_32 : decode cX8_latestUp 32 = .ok (.if_icmp .ge 28, 3) := by decide +kernel
theorem dX8_latestUp_35 : decode cX8_latestUp 35 = .ok (.aload_n 0, 1) := by decide +kernel
theorem dX8_latestUp_36 : decode cX8_latestUp 36 = .ok (.iload_n 3, 1) := by decide +kernel
theorem dX8_latestUp_37 : decode cX8_latestUp 37 = .ok (.iload 4, 2) := by decide +kernel
theorem dX8_latestUp_39 : decode cX8_latestUp 39 = .ok (.invokevirtual 269, 3) := by decide +kernel
theorem dX8_latestUp_42 : decode cX8_latestUp 42 = .ok (.ifCond .eq 12, 3) := by decide +kernel
theorem dX8_latestUp_45 : decode cX8_latestUp 45 = .ok (.iload 4, 2) := by decide +kernel
theorem dX8_latestUp_47 : decode cX8_latestUp 47 = .ok (.iload_n 2, 1) := by decide +kernel
theorem dX8_latestUp_48 : decode cX8_latestUp 48 = .ok (.if_icmp .le 6, 3) := by decide +kernel
theorem dX8_latestUp_51 : decode cX8_latestUp 51 = .ok (.iload 4, 2) := by decide +kernel
theorem dX8_latestUp_53 : decode cX8_latestUp 53 = .ok (.istore_n 2, 1) := by decide +kernel
theorem dX8_latestUp_54 : decode cX8_latestUp 54 = .ok (.iinc 4 1, 3) := by decide +kernel
theorem dX8_latestUp_57 : decode cX8_latestUp 57 = .ok (.goto (-31), 3) := by decide +kernel
theorem dX8_latestUp_60 : decode cX8_latestUp 60 = .ok (.iinc 3 1, 3) := by decide +kernel
theorem dX8_latestUp_63 : decode cX8_latestUp 63 = .ok (.goto (-48), 3) := by decide +kernel
theorem dX8_latestUp_66 : decode cX8_latestUp 66 = .ok (.iload_n 2, 1) := by decide +kernel
theorem dX8_latestUp_67 : decode cX8_latestUp 67 = .ok (.aload_n 0, 1) := by decide +kernel
theorem dX8_latestUp_68 : decode cX8_latestUp 68 = .ok (.getfield 13, 3) := by decide +kernel
theorem dX8_latestUp_71 : decode cX8_latestUp 71 = .ok (.iload_n 1, 1) := by decide +kernel
theorem dX8_latestUp_72 : decode cX8_latestUp 72 = .ok (.iaload, 1) := by decide +kernel
theorem dX8_latestUp_73 : decode cX8_latestUp 73 = .ok (.if_icmp .ge 7, 3) := by decide +kernel
theorem dX8_latestUp_76 : decode cX8_latestUp 76 = .ok (.iconst (-1), 1) := by decide +kernel
theorem dX8_latestUp_77 : decode cX8_latestUp 77 = .ok (.goto 11, 3) := by decide +kernel
theorem dX8_latestUp_80 : decode cX8_latestUp 80 = .ok (.iload_n 2, 1) := by decide +kernel
theorem dX8_latestUp_81 : decode cX8_latestUp 81 = .ok (.aload_n 0, 1) := by decide +kernel
theorem dX8_latestUp_82 : decode cX8_latestUp 82 = .ok (.getfield 13, 3) := by decide +kernel
theorem dX8_latestUp_85 : decode cX8_latestUp 85 = .ok (.iload_n 1, 1) := by decide +kernel
theorem dX8_latestUp_86 : decode cX8_latestUp 86 = .ok (.iaload, 1) := by decide +kernel
theorem dX8_latestUp_87 : decode cX8_latestUp 87 = .ok (.isub, 1) := by decide +kernel
theorem dX8_latestUp_88 : decode cX8_latestUp 88 = .ok (.ireturn, 1) := by decide +kernel
theorem dX8_judge_0 : decode cX8_judge 0 = .ok (.iload_n 1, 1) := by decide +kernel
theorem dX8_judge_1 : decode cX8_judge 1 = .ok (.invokestatic 304, 3) := by decide +kernel
theorem dX8_judge_4 : decode cX8_judge 4 = .ok (.ifCond .ne 6, 3) := by decide +kernel
theorem dX8_judge_7 : decode cX8_judge 7 = .ok (.bipush (-2), 2) := by decide +kernel
theorem dX8_judge_9 : decode cX8_judge 9 = .ok (.ireturn, 1) := by decide +kernel
theorem dX8_judge_10 : decode cX8_judge 10 = .ok (.aload_n 0, 1) := by decide +kernel
theorem dX8_judge_11 : decode cX8_judge 11 = .ok (.getfield 114, 3) := by decide +kernel
theorem dX8_judge_14 : decode cX8_judge 14 = .ok (.iload_n 1, 1) := by decide +kernel
theorem dX8_judge_15 : decode cX8_judge 15 = .ok (.iaload, 1) := by decide +kernel
theorem dX8_judge_16 : decode cX8_judge 16 = .ok (.ifCond .ge 6, 3) := by decide +kernel
theorem dX8_judge_19 : decode cX8_judge 19 = .ok (.bipush (-11), 2) := by decide +kernel
theorem dX8_judge_21 : decode cX8_judge 21 = .ok (.ireturn, 1) := by decide +kernel
theorem dX8_judge_22 : decode cX8_judge 22 = .ok (.iconst 0, 1) := by decide +kernel
theorem dX8_judge_23 : decode cX8_judge 23 = .ok (.istore_n 2, 1) := by decide +kernel
theorem dX8_judge_24 : decode cX8_judge 24 = .ok (.iload_n 2, 1) := by decide +kernel
theorem dX8_judge_25 : decode cX8_judge 25 = .ok (.aload_n 0, 1) := by decide +kernel
theorem dX8_judge_26 : decode cX8_judge 26 = .ok (.getfield 117, 3) := by decide +kernel
theorem dX8_judge_29 : decode cX8_judge 29 = .ok (.iload_n 1, 1) := by decide +kernel
theorem dX8_judge_30 : decode cX8_judge 30 = .ok (.iaload, 1) := by decide +kernel
theorem dX8_judge_31 : decode cX8_judge 31 = .ok (.if_icmp .ge 32, 3) := by decide +kernel
theorem dX8_judge_34 : decode cX8_judge 34 = .ok (.aload_n 0, 1) := by decide +kernel
theorem dX8_judge_35 : decode cX8_judge 35 = .ok (.getfield 120, 3) := by decide +kernel
theorem dX8_judge_38 : decode cX8_judge 38 = .ok (.bipush 40, 2) := by decide +kernel
theorem dX8_judge_40 : decode cX8_judge 40 = .ok (.iload_n 1, 1) := by decide +kernel
theorem dX8_judge_41 : decode cX8_judge 41 = .ok (.imul, 1) := by decide +kernel
theorem dX8_judge_42 : decode cX8_judge 42 = .ok (.iload_n 2, 1) := by decide +kernel
theorem dX8_judge_43 : decode cX8_judge 43 = .ok (.iadd, 1) := by decide +kernel
theorem dX8_judge_44 : decode cX8_judge 44 = .ok (.iaload, 1) := by decide +kernel
theorem dX8_judge_45 : decode cX8_judge 45 = .ok (.iconst 0, 1) := by decide +kernel
theorem dX8_judge_46 : decode cX8_judge 46 = .ok (.bipush 99, 2) := by decide +kernel
theorem dX8_judge_48 : decode cX8_judge 48 = .ok (.invokestatic 132, 3) := by decide +kernel
theorem dX8_judge_51 : decode cX8_judge 51 = .ok (.ifCond .ne 6, 3) := by decide +kernel
theorem dX8_judge_54 : decode cX8_judge 54 = .ok (.bipush (-2), 2) := by decide +kernel
theorem dX8_judge_56 : decode cX8_judge 56 = .ok (.ireturn, 1) := by decide +kernel
theorem dX8_judge_57 : decode cX8_judge 57 = .ok (.iinc 2 1, 3) := by decide +kernel
theorem dX8_judge_60 : decode cX8_judge 60 = .ok (.goto (-36), 3) := by decide +kernel
theorem dX8_judge_63 : decode cX8_judge 63 = .ok (.aload_n 0, 1) := by decide +kernel
theorem dX8_judge_64 : decode cX8_judge 64 = .ok (.iload_n 1, 1) := by decide +kernel
theorem dX8_judge_65 : decode cX8_judge 65 = .ok (.putfield 50, 3) := by decide +kernel
theorem dX8_judge_68 : decode cX8_judge 68 = .ok (.aload_n 0, 1) := by decide +kernel
theorem dX8_judge_69 : decode cX8_judge 69 = .ok (.iconst 0, 1) := by decide +kernel
theorem dX8_judge_70 : decode cX8_judge 70 = .ok (.aload_n 0, 1) := by decide +kernel
theorem dX8_judge_71 : decode cX8_judge 71 = .ok (.getfield 143, 3) := by decide +kernel
theorem dX8_judge_74 : decode cX8_judge 74 = .ok (.invokevirtual 292, 3) := by decide +kernel
theorem dX8_judge_77 : decode cX8_judge 77 = .ok (.aload_n 0, 1) := by decide +kernel
theorem dX8_judge_78 : decode cX8_judge 78 = .ok (.iconst (-1), 1) := by decide +kernel
theorem dX8_judge_79 : decode cX8_judge 79 = .ok (.putfield 50, 3) := by decide +kernel
theorem dX8_judge_82 : decode cX8_judge 82 = .ok (.aload_n 0, 1) := by decide +kernel
theorem dX8_judge_83 : decode cX8_judge 83 = .ok (.invokevirtual 295, 3) := by decide +kernel
theorem dX8_judge_86 : decode cX8_judge 86 = .ok (.ireturn, 1) := by decide +kernel
theorem dX8_image_0 : decode cX8_image 0 = .ok (.aload_n 0, 1) := by decide +kernel
theorem dX8_image_1 : decode cX8_image 1 = .ok (.iconst 1, 1) := by decide +kernel
theorem dX8_image_2 : decode cX8_image 2 = .ok (.putfield 307, 3) := by decide +kernel
theorem dX8_image_5 : decode cX8_image 5 = .ok (.aload_n 0, 1) := by decide +kernel
theorem dX8_image_6 : decode cX8_image 6 = .ok (.aload_n 0, 1) := by decide +kernel
theorem dX8_image_7 : decode cX8_image 7 = .ok (.getfield 43, 3) := by decide +kernel
theorem dX8_image_10 : decode cX8_image 10 = .ok (.putfield 311, 3) := by decide +kernel
theorem dX8_image_13 : decode cX8_image 13 = .ok (.aload_n 0, 1) := by decide +kernel
theorem dX8_image_14 : decode cX8_image 14 = .ok (.aload_n 0, 1) := by decide +kernel
theorem dX8_image_15 : decode cX8_image 15 = .ok (.getfield 47, 3) := by decide +kernel
theorem dX8_image_18 : decode cX8_image 18 = .ok (.putfield 314, 3) := by decide +kernel
theorem dX8_image_21 : decode cX8_image 21 = .ok (.aload_n 0, 1) := by decide +kernel
theorem dX8_image_22 : decode cX8_image 22 = .ok (.aload_n 0, 1) := by decide +kernel
theorem dX8_image_23 : decode cX8_image 23 = .ok (.getfield 149, 3) := by decide +kernel
theorem dX8_image_26 : decode cX8_image 26 = .ok (.putfield 317, 3) := by decide +kernel
theorem dX8_image_29 : decode cX8_image 29 = .ok (.aload_n 0, 1) := by decide +kernel
theorem dX8_image_30 : decode cX8_image 30 = .ok (.aload_n 0, 1) := by decide +kernel
theorem dX8_image_31 : decode cX8_image 31 = .ok (.getfield 238, 3) := by decide +kernel
theorem dX8_image_34 : decode cX8_image 34 = .ok (.putfield 320, 3) := by decide +kernel
theorem dX8_image_37 : decode cX8_image 37 = .ok (.aload_n 0, 1) := by decide +kernel
theorem dX8_image_38 : decode cX8_image 38 = .ok (.aload_n 0, 1) := by decide +kernel
theorem dX8_image_39 : decode cX8_image 39 = .ok (.getfield 129, 3) := by decide +kernel
theorem dX8_image_42 : decode cX8_image 42 = .ok (.putfield 323, 3) := by decide +kernel
theorem dX8_image_45 : decode cX8_image 45 = .ok (.iconst 0, 1) := by decide +kernel
theorem dX8_image_46 : decode cX8_image 46 = .ok (.istore_n 1, 1) := by decide +kernel
theorem dX8_image_47 : decode cX8_image 47 = .ok (.iload_n 1, 1) := by decide +kernel
theorem dX8_image_48 : decode cX8_image 48 = .ok (.bipush 6, 2) := by decide +kernel
theorem dX8_image_50 : decode cX8_image 50 = .ok (.if_icmp .ge 57, 3) := by decide +kernel
theorem dX8_image_53 : decode cX8_image 53 = .ok (.aload_n 0, 1) := by decide +kernel
theorem dX8_image_54 : decode cX8_image 54 = .ok (.getfield 99, 3) := by decide +kernel
theorem dX8_image_57 : decode cX8_image 57 = .ok (.iload_n 1, 1) := by decide +kernel
theorem dX8_image_58 : decode cX8_image 58 = .ok (.aload_n 0, 1) := by decide +kernel
theorem dX8_image_59 : decode cX8_image 59 = .ok (.getfield 7, 3) := by decide +kernel
theorem dX8_image_62 : decode cX8_image 62 = .ok (.iload_n 1, 1) := by decide +kernel
theorem dX8_image_63 : decode cX8_image 63 = .ok (.iaload, 1) := by decide +kernel
theorem dX8_image_64 : decode cX8_image 64 = .ok (.iastore, 1) := by decide +kernel
theorem dX8_image_65 : decode cX8_image 65 = .ok (.aload_n 0, 1) := by decide +kernel
theorem dX8_image_66 : decode cX8_image 66 = .ok (.getfield 102, 3) := by decide +kernel
theorem dX8_image_69 : decode cX8_image 69 = .ok (.iload_n 1, 1) := by decide +kernel
theorem dX8_image_70 : decode cX8_image 70 = .ok (.aload_n 0, 1) := by decide +kernel
theorem dX8_image_71 : decode cX8_image 71 = .ok (.getfield 13, 3) := by decide +kernel
theorem dX8_image_74 : decode cX8_image 74 = .ok (.iload_n 1, 1) := by decide +kernel
theorem dX8_image_75 : decode cX8_image 75 = .ok (.iaload, 1) := by decide +kernel
theorem dX8_image_76 : decode cX8_image 76 = .ok (.iastore, 1) := by decide +kernel
theorem dX8_image_77 : decode cX8_image 77 = .ok (.aload_n 0, 1) := by decide +kernel
theorem dX8_image_78 : decode cX8_image 78 = .ok (.getfield 105, 3) := by decide +kernel
theorem dX8_image_81 : decode cX8_image 81 = .ok (.iload_n 1, 1) := by decide +kernel
theorem dX8_image_82 : decode cX8_image 82 = .ok (.aload_n 0, 1) := by decide +kernel
theorem dX8_image_83 : decode cX8_image 83 = .ok (.getfield 16, 3) := by decide +kernel
theorem dX8_image_86 : decode cX8_image 86 = .ok (.iload_n 1, 1) := by decide +kernel
theorem dX8_image_87 : decode cX8_image 87 = .ok (.iaload, 1) := by decide +kernel
theorem dX8_image_88 : decode cX8_image 88 = .ok (.iastore, 1) := by decide +kernel
theorem dX8_image_89 : decode cX8_image 89 = .ok (.aload_n 0, 1) := by decide +kernel
theorem dX8_image_90 : decode cX8_image 90 = .ok (.getfield 108, 3) := by decide +kernel
theorem dX8_image_93 : decode cX8_image 93 = .ok (.iload_n 1, 1) := by decide +kernel
theorem dX8_image_94 : decode cX8_image 94 = .ok (.aload_n 0, 1) := by decide +kernel
theorem dX8_image_95 : decode cX8_image 95 = .ok (.getfield 19, 3) := by decide +kernel
theorem dX8_image_98 : decode cX8_image 98 = .ok (.iload_n 1, 1) := by decide +kernel
theorem dX8_image_99 : decode cX8_image 99 = .ok (.iaload, 1) := by decide +kernel
theorem dX8_image_100 : decode cX8_image 100 = .ok (.iastore, 1) := by decide +kernel
theorem dX8_image_101 : decode cX8_image 101 = .ok (.iinc 1 1, 3) := by decide +kernel
theorem dX8_image_104 : decode cX8_image 104 = .ok (.goto (-57), 3) := by decide +kernel
theorem dX8_image_107 : decode cX8_image 107 = .ok (.iconst 0, 1) := by decide +kernel
theorem dX8_image_108 : decode cX8_image 108 = .ok (.istore_n 1, 1) := by decide +kernel
theorem dX8_image_109 : decode cX8_image 109 = .ok (.iload_n 1, 1) := by decide +kernel
theorem dX8_image_110 : decode cX8_image 110 = .ok (.bipush 120, 2) := by decide +kernel
theorem dX8_image_112 : decode cX8_image 112 = .ok (.if_icmp .ge 21, 3) := by decide +kernel
theorem dX8_image_115 : decode cX8_image 115 = .ok (.aload_n 0, 1) := by decide +kernel
theorem dX8_image_116 : decode cX8_image 116 = .ok (.getfield 111, 3) := by decide +kernel
theorem dX8_image_119 : decode cX8_image 119 = .ok (.iload_n 1, 1) := by decide +kernel
theorem dX8_image_120 : decode cX8_image 120 = .ok (.aload_n 0, 1) := by decide +kernel
theorem dX8_image_121 : decode cX8_image 121 = .ok (.getfield 40, 3) := by decide +kernel
theorem dX8_image_124 : decode cX8_image 124 = .ok (.iload_n 1, 1) := by decide +kernel
theorem dX8_image_125 : decode cX8_image 125 = .ok (.iaload, 1) := by decide +kernel
theorem dX8_image_126 : decode cX8_image 126 = .ok (.iastore, 1) := by decide +kernel
theorem dX8_image_127 : decode cX8_image 127 = .ok (.iinc 1 1, 3) := by decide +kernel
theorem dX8_image_130 : decode cX8_image 130 = .ok (.goto (-21), 3) := by decide +kernel
theorem dX8_image_133 : decode cX8_image 133 = .ok (.aload_n 0, 1) := by decide +kernel
theorem dX8_image_134 : decode cX8_image 134 = .ok (.getfield 129, 3) := by decide +kernel
theorem dX8_image_137 : decode cX8_image 137 = .ok (.ireturn, 1) := by decide +kernel
theorem dX8_back_0 : decode cX8_back 0 = .ok (.aload_n 0, 1) := by decide +kernel
theorem dX8_back_1 : decode cX8_back 1 = .ok (.getfield 307, 3) := by decide +kernel
theorem dX8_back_4 : decode cX8_back 4 = .ok (.ifCond .ne 6, 3) := by decide +kernel
theorem dX8_back_7 : decode cX8_back 7 = .ok (.bipush (-3), 2) := by decide +kernel
theorem dX8_back_9 : decode cX8_back 9 = .ok (.ireturn, 1) := by decide +kernel
theorem dX8_back_10 : decode cX8_back 10 = .ok (.aload_n 0, 1) := by decide +kernel
theorem dX8_back_11 : decode cX8_back 11 = .ok (.aload_n 0, 1) := by decide +kernel
theorem dX8_back_12 : decode cX8_back 12 = .ok (.getfield 311, 3) := by decide +kernel
theorem dX8_back_15 : decode cX8_back 15 = .ok (.putfield 43, 3) := by decide +kernel
theorem dX8_back_18 : decode cX8_back 18 = .ok (.aload_n 0, 1) := by decide +kernel
theorem dX8_back_19 : decode cX8_back 19 = .ok (.aload_n 0, 1) := by decide +kernel
theorem dX8_back_20 : decode cX8_back 20 = .ok (.getfield 314, 3) := by decide +kernel
theorem dX8_back_23 : decode cX8_back 23 = .ok (.putfield 47, 3) := by decide +kernel
theorem dX8_back_26 : decode cX8_back 26 = .ok (.aload_n 0, 1) := by decide +kernel
theorem dX8_back_27 : decode cX8_back 27 = .ok (.aload_n 0, 1) := by decide +kernel
theorem dX8_back_28 : decode cX8_back 28 = .ok (.getfield 317, 3) := by decide +kernel
theorem dX8_back_31 : decode cX8_back 31 = .ok (.putfield 149, 3) := by decide +kernel
theorem dX8_back_34 : decode cX8_back 34 = .ok (.aload_n 0, 1) := by decide +kernel
theorem dX8_back_35 : decode cX8_back 35 = .ok (.aload_n 0, 1) := by decide +kernel
theorem dX8_back_36 : decode cX8_back 36 = .ok (.getfield 320, 3) := by decide +kernel
theorem dX8_back_39 : decode cX8_back 39 = .ok (.putfield 238, 3) := by decide +kernel
theorem dX8_back_42 : decode cX8_back 42 = .ok (.iconst 0, 1) := by decide +kernel
theorem dX8_back_43 : decode cX8_back 43 = .ok (.istore_n 1, 1) := by decide +kernel
theorem dX8_back_44 : decode cX8_back 44 = .ok (.iload_n 1, 1) := by decide +kernel
theorem dX8_back_45 : decode cX8_back 45 = .ok (.aload_n 0, 1) := by decide +kernel
theorem dX8_back_46 : decode cX8_back 46 = .ok (.getfield 323, 3) := by decide +kernel
theorem dX8_back_49 : decode cX8_back 49 = .ok (.if_icmp .ge 57, 3) := by decide +kernel
theorem dX8_back_52 : decode cX8_back 52 = .ok (.aload_n 0, 1) := by decide +kernel
theorem dX8_back_53 : decode cX8_back 53 = .ok (.getfield 7, 3) := by decide +kernel
theorem dX8_back_56 : decode cX8_back 56 = .ok (.iload_n 1, 1) := by decide +kernel
theorem dX8_back_57 : decode cX8_back 57 = .ok (.aload_n 0, 1) := by decide +kernel
theorem dX8_back_58 : decode cX8_back 58 = .ok (.getfield 99, 3) := by decide +kernel
theorem dX8_back_61 : decode cX8_back 61 = .ok (.iload_n 1, 1) := by decide +kernel
theorem dX8_back_62 : decode cX8_back 62 = .ok (.iaload, 1) := by decide +kernel
theorem dX8_back_63 : decode cX8_back 63 = .ok (.iastore, 1) := by decide +kernel
theorem dX8_back_64 : decode cX8_back 64 = .ok (.aload_n 0, 1) := by decide +kernel
theorem dX8_back_65 : decode cX8_back 65 = .ok (.getfield 13, 3) := by decide +kernel
theorem dX8_back_68 : decode cX8_back 68 = .ok (.iload_n 1, 1) := by decide +kernel
theorem dX8_back_69 : decode cX8_back 69 = .ok (.aload_n 0, 1) := by decide +kernel
theorem dX8_back_70 : decode cX8_back 70 = .ok (.getfield 102, 3) := by decide +kernel
theorem dX8_back_73 : decode cX8_back 73 = .ok (.iload_n 1, 1) := by decide +kernel
theorem dX8_back_74 : decode cX8_back 74 = .ok (.iaload, 1) := by decide +kernel
theorem dX8_back_75 : decode cX8_back 75 = .ok (.iastore, 1) := by decide +kernel
theorem dX8_back_76 : decode cX8_back 76 = .ok (.aload_n 0, 1) := by decide +kernel
theorem dX8_back_77 : decode cX8_back 77 = .ok (.getfield 16, 3) := by decide +kernel
theorem dX8_back_80 : decode cX8_back 80 = .ok (.iload_n 1, 1) := by decide +kernel
theorem dX8_back_81 : decode cX8_back 81 = .ok (.aload_n 0, 1) := by decide +kernel
theorem dX8_back_82 : decode cX8_back 82 = .ok (.getfield 105, 3) := by decide +kernel
theorem dX8_back_85 : decode cX8_back 85 = .ok (.iload_n 1, 1) := by decide +kernel
theorem dX8_back_86 : decode cX8_back 86 = .ok (.iaload, 1) := by decide +kernel
theorem dX8_back_87 : decode cX8_back 87 = .ok (.iastore, 1) := by decide +kernel
theorem dX8_back_88 : decode cX8_back 88 = .ok (.aload_n 0, 1) := by decide +kernel
theorem dX8_back_89 : decode cX8_back 89 = .ok (.getfield 19, 3) := by decide +kernel
theorem dX8_back_92 : decode cX8_back 92 = .ok (.iload_n 1, 1) := by decide +kernel
theorem dX8_back_93 : decode cX8_back 93 = .ok (.aload_n 0, 1) := by decide +kernel
theorem dX8_back_94 : decode cX8_back 94 = .ok (.getfield 108, 3) := by decide +kernel
theorem dX8_back_97 : decode cX8_back 97 = .ok (.iload_n 1, 1) := by decide +kernel
theorem dX8_back_98 : decode cX8_back 98 = .ok (.iaload, 1) := by decide +kernel
theorem dX8_back_99 : decode cX8_back 99 = .ok (.iastore, 1) := by decide +kernel
theorem dX8_back_100 : decode cX8_back 100 = .ok (.iinc 1 1, 3) := by decide +kernel
theorem dX8_back_103 : decode cX8_back 103 = .ok (.goto (-59), 3) := by decide +kernel
theorem dX8_back_106 : decode cX8_back 106 = .ok (.iconst 0, 1) := by decide +kernel
theorem dX8_back_107 : decode cX8_back 107 = .ok (.istore_n 1, 1) := by decide +kernel
theorem dX8_back_108 : decode cX8_back 108 = .ok (.iload_n 1, 1) := by decide +kernel
theorem dX8_back_109 : decode cX8_back 109 = .ok (.bipush 120, 2) := by decide +kernel
theorem dX8_back_111 : decode cX8_back 111 = .ok (.if_icmp .ge 21, 3) := by decide +kernel
theorem dX8_back_114 : decode cX8_back 114 = .ok (.aload_n 0, 1) := by decide +kernel
theorem dX8_back_115 : decode cX8_back 115 = .ok (.getfield 40, 3) := by decide +kernel
theorem dX8_back_118 : decode cX8_back 118 = .ok (.iload_n 1, 1) := by decide +kernel
theorem dX8_back_119 : decode cX8_back 119 = .ok (.aload_n 0, 1) := by decide +kernel
theorem dX8_back_120 : decode cX8_back 120 = .ok (.getfield 111, 3) := by decide +kernel
theorem dX8_back_123 : decode cX8_back 123 = .ok (.iload_n 1, 1) := by decide +kernel
theorem dX8_back_124 : decode cX8_back 124 = .ok (.iaload, 1) := by decide +kernel
theorem dX8_back_125 : decode cX8_back 125 = .ok (.iastore, 1) := by decide +kernel
theorem dX8_back_126 : decode cX8_back 126 = .ok (.iinc 1 1, 3) := by decide +kernel
theorem dX8_back_129 : decode cX8_back 129 = .ok (.goto (-21), 3) := by decide +kernel
theorem dX8_back_132 : decode cX8_back 132 = .ok (.aload_n 0, 1) := by decide +kernel
theorem dX8_back_133 : decode cX8_back 133 = .ok (.getfield 129, 3) := by decide +kernel
theorem dX8_back_136 : decode cX8_back 136 = .ok (.ireturn, 1) := by decide +kernel
theorem dX8_allUp_0 : decode cX8_allUp 0 = .ok (.iconst 0, 1) := by decide +kernel
theorem dX8_allUp_1 : decode cX8_allUp 1 = .ok (.istore_n 1, 1) := by decide +kernel
theorem dX8_allUp_2 : decode cX8_allUp 2 = .ok (.iconst 0, 1) := by decide +kernel
theorem dX8_allUp_3 : decode cX8_allUp 3 = .ok (.istore_n 2, 1) := by decide +kernel
theorem dX8_allUp_4 : decode cX8_allUp 4 = .ok (.iload_n 2, 1) := by decide +kernel
theorem dX8_allUp_5 : decode cX8_allUp 5 = .ok (.aload_n 0, 1) := by decide +kernel
theorem dX8_allUp_6 : decode cX8_allUp 6 = .ok (.getfield 129, 3) := by decide +kernel
theorem dX8_allUp_9 : decode cX8_allUp 9 = .ok (.if_icmp .ge 18, 3) := by decide +kernel
theorem dX8_allUp_12 : decode cX8_allUp 12 = .ok (.iload_n 1, 1) := by decide +kernel
theorem dX8_allUp_13 : decode cX8_allUp 13 = .ok (.aload_n 0, 1) := by decide +kernel
theorem dX8_allUp_14 : decode cX8_allUp 14 = .ok (.getfield 7, 3) := by decide +kernel
theorem dX8_allUp_17 : decode cX8_allUp 17 = .ok (.iload_n 2, 1) := by decide +kernel
theorem dX8_allUp_18 : decode cX8_allUp 18 = .ok (.iaload, 1) := by decide +kernel
theorem dX8_allUp_19 : decode cX8_allUp 19 = .ok (.iadd, 1) := by decide +kernel
theorem dX8_allUp_20 : decode cX8_allUp 20 = .ok (.istore_n 1, 1) := by decide +kernel
theorem dX8_allUp_21 : decode cX8_allUp 21 = .ok (.iinc 2 1, 3) := by decide +kernel
theorem dX8_allUp_24 : decode cX8_allUp 24 = .ok (.goto (-20), 3) := by decide +kernel
theorem dX8_allUp_27 : decode cX8_allUp 27 = .ok (.iload_n 1, 1) := by decide +kernel
theorem dX8_allUp_28 : decode cX8_allUp 28 = .ok (.ireturn, 1) := by decide +kernel
theorem dX8_count_0 : decode cX8_count 0 = .ok (.iload_n 1, 1) := by decide +kernel
theorem dX8_count_1 : decode cX8_count 1 = .ok (.tableswitch 87 0 7 #[47, 52, 57, 62, 67, 72, 77, 82], 47) := by decide +kernel
theorem dX8_count_48 : decode cX8_count 48 = .ok (.aload_n 0, 1) := by decide +kernel
theorem dX8_count_49 : decode cX8_count 49 = .ok (.getfield 129, 3) := by decide +kernel
theorem dX8_count_52 : decode cX8_count 52 = .ok (.ireturn, 1) := by decide +kernel
theorem dX8_count_53 : decode cX8_count 53 = .ok (.aload_n 0, 1) := by decide +kernel
theorem dX8_count_54 : decode cX8_count 54 = .ok (.getfield 143, 3) := by decide +kernel
theorem dX8_count_57 : decode cX8_count 57 = .ok (.ireturn, 1) := by decide +kernel
theorem dX8_count_58 : decode cX8_count 58 = .ok (.aload_n 0, 1) := by decide +kernel
theorem dX8_count_59 : decode cX8_count 59 = .ok (.getfield 136, 3) := by decide +kernel
theorem dX8_count_62 : decode cX8_count 62 = .ok (.ireturn, 1) := by decide +kernel
theorem dX8_count_63 : decode cX8_count 63 = .ok (.aload_n 0, 1) := by decide +kernel
theorem dX8_count_64 : decode cX8_count 64 = .ok (.getfield 43, 3) := by decide +kernel
theorem dX8_count_67 : decode cX8_count 67 = .ok (.ireturn, 1) := by decide +kernel
theorem dX8_count_68 : decode cX8_count 68 = .ok (.aload_n 0, 1) := by decide +kernel
theorem dX8_count_69 : decode cX8_count 69 = .ok (.getfield 57, 3) := by decide +kernel
theorem dX8_count_72 : decode cX8_count 72 = .ok (.ireturn, 1) := by decide +kernel
theorem dX8_count_73 : decode cX8_count 73 = .ok (.aload_n 0, 1) := by decide +kernel
theorem dX8_count_74 : decode cX8_count 74 = .ok (.getfield 162, 3) := by decide +kernel
theorem dX8_count_77 : decode cX8_count 77 = .ok (.ireturn, 1) := by decide +kernel
theorem dX8_count_78 : decode cX8_count 78 = .ok (.aload_n 0, 1) := by decide +kernel
theorem dX8_count_79 : decode cX8_count 79 = .ok (.getfield 238, 3) := by decide +kernel
theorem dX8_count_82 : decode cX8_count 82 = .ok (.ireturn, 1) := by decide +kernel
theorem dX8_count_83 : decode cX8_count 83 = .ok (.aload_n 0, 1) := by decide +kernel
theorem dX8_count_84 : decode cX8_count 84 = .ok (.invokevirtual 326, 3) := by decide +kernel
theorem dX8_count_87 : decode cX8_count 87 = .ok (.ireturn, 1) := by decide +kernel
theorem dX8_count_88 : decode cX8_count 88 = .ok (.bipush (-2), 2) := by decide +kernel
theorem dX8_count_90 : decode cX8_count 90 = .ok (.ireturn, 1) := by decide +kernel
theorem dX8_isSheet_0 : decode cX8_isSheet 0 = .ok (.iload_n 0, 1) := by decide +kernel
theorem dX8_isSheet_1 : decode cX8_isSheet 1 = .ok (.iconst 0, 1) := by decide +kernel
theorem dX8_isSheet_2 : decode cX8_isSheet 2 = .ok (.iconst 3, 1) := by decide +kernel
theorem dX8_isSheet_3 : decode cX8_isSheet 3 = .ok (.invokestatic 132, 3) := by decide +kernel
theorem dX8_isSheet_6 : decode cX8_isSheet 6 = .ok (.ireturn, 1) := by decide +kernel
theorem dX8_sheet_0 : decode cX8_sheet 0 = .ok (.iload_n 1, 1) := by decide +kernel
theorem dX8_sheet_1 : decode cX8_sheet 1 = .ok (.invokestatic 304, 3) := by decide +kernel
theorem dX8_sheet_4 : decode cX8_sheet 4 = .ok (.ifCond .eq 12, 3) := by decide +kernel
theorem dX8_sheet_7 : decode cX8_sheet 7 = .ok (.iload_n 2, 1) := by decide +kernel
theorem dX8_sheet_8 : decode cX8_sheet 8 = .ok (.iconst (-1), 1) := by decide +kernel
theorem dX8_sheet_9 : decode cX8_sheet 9 = .ok (.iconst 2, 1) := by decide +kernel
theorem dX8_sheet_10 : decode cX8_sheet 10 = .ok (.invokestatic 132, 3) := by decide +kernel
theorem dX8_sheet_13 : decode cX8_sheet 13 = .ok (.ifCond .ne 6, 3) := by decide +kernel
theorem dX8_sheet_16 : decode cX8_sheet 16 = .ok (.bipush (-2), 2) := by decide +kernel
theorem dX8_sheet_18 : decode cX8_sheet 18 = .ok (.ireturn, 1) := by decide +kernel
theorem dX8_sheet_19 : decode cX8_sheet 19 = .ok (.iload_n 2, 1) := by decide +kernel
theorem dX8_sheet_20 : decode cX8_sheet 20 = .ok (.iconst (-1), 1) := by decide +kernel
theorem dX8_sheet_21 : decode cX8_sheet 21 = .ok (.if_icmp .ne 12, 3) := by decide +kernel
theorem dX8_sheet_24 : decode cX8_sheet 24 = .ok (.aload_n 0, 1) := by decide +kernel
theorem dX8_sheet_25 : decode cX8_sheet 25 = .ok (.getfield 114, 3) := by decide +kernel
theorem dX8_sheet_28 : decode cX8_sheet 28 = .ok (.iload_n 1, 1) := by decide +kernel
theorem dX8_sheet_29 : decode cX8_sheet 29 = .ok (.iconst (-1), 1) := by decide +kernel
theorem dX8_sheet_30 : decode cX8_sheet 30 = .ok (.iastore, 1) := by decide +kernel
theorem dX8_sheet_31 : decode cX8_sheet 31 = .ok (.iconst 1, 1) := by decide +kernel
theorem dX8_sheet_32 : decode cX8_sheet 32 = .ok (.ireturn, 1) := by decide +kernel
theorem dX8_sheet_33 : decode cX8_sheet 33 = .ok (.iload_n 3, 1) := by decide +kernel
theorem dX8_sheet_34 : decode cX8_sheet 34 = .ok (.bipush 40, 2) := by decide +kernel
theorem dX8_sheet_36 : decode cX8_sheet 36 = .ok (.if_icmp .le 6, 3) := by decide +kernel
theorem dX8_sheet_39 : decode cX8_sheet 39 = .ok (.bipush (-2), 2) := by decide +kernel
theorem dX8_sheet_41 : decode cX8_sheet 41 = .ok (.ireturn, 1) := by decide +kernel
theorem dX8_sheet_42 : decode cX8_sheet 42 = .ok (.iload_n 3, 1) := by decide +kernel
theorem dX8_sheet_43 : decode cX8_sheet 43 = .ok (.ifCond .ge 6, 3) := by decide +kernel
theorem dX8_sheet_46 : decode cX8_sheet 46 = .ok (.bipush (-14), 2) := by decide +kernel
theorem dX8_sheet_48 : decode cX8_sheet 48 = .ok (.ireturn, 1) := by decide +kernel
theorem dX8_sheet_49 : decode cX8_sheet 49 = .ok (.aload_n 0, 1) := by decide +kernel
theorem dX8_sheet_50 : decode cX8_sheet 50 = .ok (.getfield 114, 3) := by decide +kernel
theorem dX8_sheet_53 : decode cX8_sheet 53 = .ok (.iload_n 1, 1) := by decide +kernel
theorem dX8_sheet_54 : decode cX8_sheet 54 = .ok (.iload_n 2, 1) := by decide +kernel
theorem dX8_sheet_55 : decode cX8_sheet 55 = .ok (.iastore, 1) := by decide +kernel
theorem dX8_sheet_56 : decode cX8_sheet 56 = .ok (.aload_n 0, 1) := by decide +kernel
theorem dX8_sheet_57 : decode cX8_sheet 57 = .ok (.getfield 117, 3) := by decide +kernel
theorem dX8_sheet_60 : decode cX8_sheet 60 = .ok (.iload_n 1, 1) := by decide +kernel
theorem dX8_sheet_61 : decode cX8_sheet 61 = .ok (.iload_n 3, 1) := by decide +kernel
theorem dX8_sheet_62 : decode cX8_sheet 62 = .ok (.iastore, 1) := by decide +kernel
theorem dX8_sheet_63 : decode cX8_sheet 63 = .ok (.iconst 0, 1) := by decide +kernel
theorem dX8_sheet_64 : decode cX8_sheet 64 = .ok (.istore 4, 2) := by decide +kernel
theorem dX8_sheet_66 : decode cX8_sheet 66 = .ok (.iload 4, 2) := by decide +kernel
theorem dX8_sheet_68 : decode cX8_sheet 68 = .ok (.iload_n 3, 1) := by decide +kernel
theorem dX8_sheet_69 : decode cX8_sheet 69 = .ok (.if_icmp .ge 22, 3) := by decide +kernel
theorem dX8_sheet_72 : decode cX8_sheet 72 = .ok (.aload_n 0, 1) := by decide +kernel
theorem dX8_sheet_73 : decode cX8_sheet 73 = .ok (.getfield 120, 3) := by decide +kernel
theorem dX8_sheet_76 : decode cX8_sheet 76 = .ok (.bipush 40, 2) := by decide +kernel
theorem dX8_sheet_78 : decode cX8_sheet 78 = .ok (.iload_n 1, 1) := by decide +kernel
theorem dX8_sheet_79 : decode cX8_sheet 79 = .ok (.imul, 1) := by decide +kernel
theorem dX8_sheet_80 : decode cX8_sheet 80 = .ok (.iload 4, 2) := by decide +kernel
theorem dX8_sheet_82 : decode cX8_sheet 82 = .ok (.iadd, 1) := by decide +kernel
theorem dX8_sheet_83 : decode cX8_sheet 83 = .ok (.iconst 0, 1) := by decide +kernel
theorem dX8_sheet_84 : decode cX8_sheet 84 = .ok (.iastore, 1) := by decide +kernel
theorem dX8_sheet_85 : decode cX8_sheet 85 = .ok (.iinc 4 1, 3) := by decide +kernel
theorem dX8_sheet_88 : decode cX8_sheet 88 = .ok (.goto (-22), 3) := by decide +kernel
theorem dX8_sheet_91 : decode cX8_sheet 91 = .ok (.iconst 1, 1) := by decide +kernel
theorem dX8_sheet_92 : decode cX8_sheet 92 = .ok (.ireturn, 1) := by decide +kernel
theorem dX8_cell_0 : decode cX8_cell 0 = .ok (.iload_n 1, 1) := by decide +kernel
theorem dX8_cell_1 : decode cX8_cell 1 = .ok (.invokestatic 304, 3) := by decide +kernel
theorem dX8_cell_4 : decode cX8_cell 4 = .ok (.ifCond .ne 6, 3) := by decide +kernel
theorem dX8_cell_7 : decode cX8_cell 7 = .ok (.bipush (-2), 2) := by decide +kernel
theorem dX8_cell_9 : decode cX8_cell 9 = .ok (.ireturn, 1) := by decide +kernel
theorem dX8_cell_10 : decode cX8_cell 10 = .ok (.aload_n 0, 1) := by decide +kernel
theorem dX8_cell_11 : decode cX8_cell 11 = .ok (.getfield 114, 3) := by decide +kernel
theorem dX8_cell_14 : decode cX8_cell 14 = .ok (.iload_n 1, 1) := by decide +kernel
theorem dX8_cell_15 : decode cX8_cell 15 = .ok (.iaload, 1) := by decide +kernel
theorem dX8_cell_16 : decode cX8_cell 16 = .ok (.ifCond .ge 6, 3) := by decide +kernel
theorem dX8_cell_19 : decode cX8_cell 19 = .ok (.bipush (-11), 2) := by decide +kernel
theorem dX8_cell_21 : decode cX8_cell 21 = .ok (.ireturn, 1) := by decide +kernel
theorem dX8_cell_22 : decode cX8_cell 22 = .ok (.iload_n 2, 1) := by decide +kernel
theorem dX8_cell_23 : decode cX8_cell 23 = .ok (.iconst 0, 1) := by decide +kernel
theorem dX8_cell_24 : decode cX8_cell 24 = .ok (.aload_n 0, 1) := by decide +kernel
theorem dX8_cell_25 : decode cX8_cell 25 = .ok (.getfield 117, 3) := by decide +kernel
theorem dX8_cell_28 : decode cX8_cell 28 = .ok (.iload_n 1, 1) := by decide +kernel
theorem dX8_cell_29 : decode cX8_cell 29 = .ok (.iaload, 1) := by decide +kernel
theorem dX8_cell_30 : decode cX8_cell 30 = .ok (.iconst 1, 1) := by decide +kernel
theorem dX8_cell_31 : decode cX8_cell 31 = .ok (.isub, 1) := by decide +kernel
theorem dX8_cell_32 : decode cX8_cell 32 = .ok (.invokestatic 132, 3) := by decide +kernel
theorem dX8_cell_35 : decode cX8_cell 35 = .ok (.ifCond .ne 6, 3) := by decide +kernel
theorem dX8_cell_38 : decode cX8_cell 38 = .ok (.bipush (-12), 2) := by decide +kernel
theorem dX8_cell_40 : decode cX8_cell 40 = .ok (.ireturn, 1) := by decide +kernel
theorem dX8_cell_41 : decode cX8_cell 41 = .ok (.aload_n 0, 1) := by decide +kernel
theorem dX8_cell_42 : decode cX8_cell 42 = .ok (.getfield 120, 3) := by decide +kernel
theorem dX8_cell_45 : decode cX8_cell 45 = .ok (.bipush 40, 2) := by decide +kernel
theorem dX8_cell_47 : decode cX8_cell 47 = .ok (.iload_n 1, 1) := by decide +kernel
theorem dX8_cell_48 : decode cX8_cell 48 = .ok (.imul, 1) := by decide +kernel
theorem dX8_cell_49 : decode cX8_cell 49 = .ok (.iload_n 2, 1) := by decide +kernel
theorem dX8_cell_50 : decode cX8_cell 50 = .ok (.iadd, 1) := by decide +kernel
theorem dX8_cell_51 : decode cX8_cell 51 = .ok (.aload_n 0, 1) := by decide +kernel
theorem dX8_cell_52 : decode cX8_cell 52 = .ok (.getfield 114, 3) := by decide +kernel
theorem dX8_cell_55 : decode cX8_cell 55 = .ok (.iload_n 1, 1) := by decide +kernel
theorem dX8_cell_56 : decode cX8_cell 56 = .ok (.iaload, 1) := by decide +kernel
theorem dX8_cell_57 : decode cX8_cell 57 = .ok (.ifCond .ne 8, 3) := by decide +kernel
theorem dX8_cell_60 : decode cX8_cell 60 = .ok (.iload_n 3, 1) := by decide +kernel
theorem dX8_cell_61 : decode cX8_cell 61 = .ok (.i2b, 1) := by decide +kernel
theorem dX8_cell_62 : decode cX8_cell 62 = .ok (.goto 19, 3) := by decide +kernel
theorem dX8_cell_65 : decode cX8_cell 65 = .ok (.aload_n 0, 1) := by decide +kernel
theorem dX8_cell_66 : decode cX8_cell 66 = .ok (.getfield 114, 3) := by decide +kernel
theorem dX8_cell_69 : decode cX8_cell 69 = .ok (.iload_n 1, 1) := by decide +kernel
theorem dX8_cell_70 : decode cX8_cell 70 = .ok (.iaload, 1) := by decide +kernel
theorem dX8_cell_71 : decode cX8_cell 71 = .ok (.iconst 1, 1) := by decide +kernel
theorem dX8_cell_72 : decode cX8_cell 72 = .ok (.if_icmp .ne 8, 3) := by decide +kernel
theorem dX8_cell_75 : decode cX8_cell 75 = .ok (.iload_n 3, 1) := by decide +kernel
theorem dX8_cell_76 : decode cX8_cell 76 = .ok (.i2s, 1) := by decide +kernel
theorem dX8_cell_77 : decode cX8_cell 77 = .ok (.goto 4, 3) := by decide +kernel
theorem dX8_cell_80 : decode cX8_cell 80 = .ok (.iload_n 3, 1) := by decide +kernel
theorem dX8_cell_81 : decode cX8_cell 81 = .ok (.iastore, 1) := by decide +kernel
theorem dX8_cell_82 : decode cX8_cell 82 = .ok (.iconst 1, 1) := by decide +kernel
theorem dX8_cell_83 : decode cX8_cell 83 = .ok (.ireturn, 1) := by decide +kernel
theorem dX8_copy_0 : decode cX8_copy 0 = .ok (.iload_n 1, 1) := by decide +kernel
theorem dX8_copy_1 : decode cX8_copy 1 = .ok (.invokestatic 304, 3) := by decide +kernel
theorem dX8_copy_4 : decode cX8_copy 4 = .ok (.ifCond .eq 10, 3) := by decide +kernel
theorem dX8_copy_7 : decode cX8_copy 7 = .ok (.iload_n 3, 1) := by decide +kernel
theorem dX8_copy_8 : decode cX8_copy 8 = .ok (.invokestatic 304, 3) := by decide +kernel
theorem dX8_copy_11 : decode cX8_copy 11 = .ok (.ifCond .ne 6, 3) := by decide +kernel
theorem dX8_copy_14 : decode cX8_copy 14 = .ok (.bipush (-2), 2) := by decide +kernel
theorem dX8_copy_16 : decode cX8_copy 16 = .ok (.ireturn, 1) := by decide +kernel
theorem dX8_copy_17 : decode cX8_copy 17 = .ok (.aload_n 0, 1) := by decide +kernel
theorem dX8_copy_18 : decode cX8_copy 18 = .ok (.getfield 114, 3) := by decide +kernel
theorem dX8_copy_21 : decode cX8_copy 21 = .ok (.iload_n 1, 1) := by decide +kernel
theorem dX8_copy_22 : decode cX8_copy 22 = .ok (.iaload, 1) := by decide +kernel
theorem dX8_copy_23 : decode cX8_copy 23 = .ok (.ifCond .lt 12, 3) := by decide +kernel
theorem dX8_copy_26 : decode cX8_copy 26 = .ok (.aload_n 0, 1) := by decide +kernel
theorem dX8_copy_27 : decode cX8_copy 27 = .ok (.getfield 114, 3) := by decide +kernel
theorem dX8_copy_30 : decode cX8_copy 30 = .ok (.iload_n 3, 1) := by decide +kernel
theorem dX8_copy_31 : decode cX8_copy 31 = .ok (.iaload, 1) := by decide +kernel
theorem dX8_copy_32 : decode cX8_copy 32 = .ok (.ifCond .ge 6, 3) := by decide +kernel
theorem dX8_copy_35 : decode cX8_copy 35 = .ok (.bipush (-11), 2) := by decide +kernel
theorem dX8_copy_37 : decode cX8_copy 37 = .ok (.ireturn, 1) := by decide +kernel
theorem dX8_copy_38 : decode cX8_copy 38 = .ok (.aload_n 0, 1) := by decide +kernel
theorem dX8_copy_39 : decode cX8_copy 39 = .ok (.getfield 114, 3) := by decide +kernel
theorem dX8_copy_42 : decode cX8_copy 42 = .ok (.iload_n 1, 1) := by decide +kernel
theorem dX8_copy_43 : decode cX8_copy 43 = .ok (.iaload, 1) := by decide +kernel
theorem dX8_copy_44 : decode cX8_copy 44 = .ok (.aload_n 0, 1) := by decide +kernel
theorem dX8_copy_45 : decode cX8_copy 45 = .ok (.getfield 114, 3) := by decide +kernel
theorem dX8_copy_48 : decode cX8_copy 48 = .ok (.iload_n 3, 1) := by decide +kernel
theorem dX8_copy_49 : decode cX8_copy 49 = .ok (.iaload, 1) := by decide +kernel
theorem dX8_copy_50 : decode cX8_copy 50 = .ok (.if_icmp .eq 6, 3) := by decide +kernel
theorem dX8_copy_53 : decode cX8_copy 53 = .ok (.bipush (-13), 2) := by decide +kernel
theorem dX8_copy_55 : decode cX8_copy 55 = .ok (.ireturn, 1) := by decide +kernel
theorem dX8_copy_56 : decode cX8_copy 56 = .ok (.iload 5, 2) := by decide +kernel
theorem dX8_copy_58 : decode cX8_copy 58 = .ok (.ifCond .lt 47, 3) := by decide +kernel
theorem dX8_copy_61 : decode cX8_copy 61 = .ok (.iload_n 2, 1) := by decide +kernel
theorem dX8_copy_62 : decode cX8_copy 62 = .ok (.ifCond .lt 43, 3) := by decide +kernel
theorem dX8_copy_65 : decode cX8_copy 65 = .ok (.iload 4, 2) := by decide +kernel
theorem dX8_copy_67 : decode cX8_copy 67 = .ok (.ifCond .lt 38, 3) := by decide +kernel
theorem dX8_copy_70 : decode cX8_copy 70 = .ok (.iload_n 2, 1) := by decide +kernel
theorem dX8_copy_71 : decode cX8_copy 71 = .ok (.i2l, 1) := by decide +kernel
theorem dX8_copy_72 : decode cX8_copy 72 = .ok (.iload 5, 2) := by decide +kernel
theorem dX8_copy_74 : decode cX8_copy 74 = .ok (.i2l, 1) := by decide +kernel
theorem dX8_copy_75 : decode cX8_copy 75 = .ok (.ladd, 1) := by decide +kernel
theorem dX8_copy_76 : decode cX8_copy 76 = .ok (.aload_n 0, 1) := by decide +kernel
theorem dX8_copy_77 : decode cX8_copy 77 = .ok (.getfield 117, 3) := by decide +kernel
theorem dX8_copy_80 : decode cX8_copy 80 = .ok (.iload_n 1, 1) := by decide +kernel
theorem dX8_copy_81 : decode cX8_copy 81 = .ok (.iaload, 1) := by decide +kernel
theorem dX8_copy_82 : decode cX8_copy 82 = .ok (.i2l, 1) := by decide +kernel
theorem dX8_copy_83 : decode cX8_copy 83 = .ok (.lcmp, 1) := by decide +kernel
theorem dX8_copy_84 : decode cX8_copy 84 = .ok (.ifCond .gt 21, 3) := by decide +kernel
theorem dX8_copy_87 : decode cX8_copy 87 = .ok (.iload 4, 2) := by decide +kernel
theorem dX8_copy_89 : decode cX8_copy 89 = .ok (.i2l, 1) := by decide +kernel
theorem dX8_copy_90 : decode cX8_copy 90 = .ok (.iload 5, 2) := by decide +kernel
theorem dX8_copy_92 : decode cX8_copy 92 = .ok (.i2l, 1) := by decide +kernel
theorem dX8_copy_93 : decode cX8_copy 93 = .ok (.ladd, 1) := by decide +kernel
theorem dX8_copy_94 : decode cX8_copy 94 = .ok (.aload_n 0, 1) := by decide +kernel
theorem dX8_copy_95 : decode cX8_copy 95 = .ok (.getfield 117, 3) := by decide +kernel
theorem dX8_copy_98 : decode cX8_copy 98 = .ok (.iload_n 3, 1) := by decide +kernel
theorem dX8_copy_99 : decode cX8_copy 99 = .ok (.iaload, 1) := by decide +kernel
theorem dX8_copy_100 : decode cX8_copy 100 = .ok (.i2l, 1) := by decide +kernel
theorem dX8_copy_101 : decode cX8_copy 101 = .ok (.lcmp, 1) := by decide +kernel
theorem dX8_copy_102 : decode cX8_copy 102 = .ok (.ifCond .le 6, 3) := by decide +kernel
theorem dX8_copy_105 : decode cX8_copy 105 = .ok (.bipush (-12), 2) := by decide +kernel
theorem dX8_copy_107 : decode cX8_copy 107 = .ok (.ireturn, 1) := by decide +kernel
theorem dX8_copy_108 : decode cX8_copy 108 = .ok (.iconst 0, 1) := by decide +kernel
theorem dX8_copy_109 : decode cX8_copy 109 = .ok (.istore 6, 2) := by decide +kernel
theorem dX8_copy_111 : decode cX8_copy 111 = .ok (.iload 6, 2) := by decide +kernel
theorem dX8_copy_113 : decode cX8_copy 113 = .ok (.iload 5, 2) := by decide +kernel
theorem dX8_copy_115 : decode cX8_copy 115 = .ok (.if_icmp .ge 30, 3) := by decide +kernel
theorem dX8_copy_118 : decode cX8_copy 118 = .ok (.aload_n 0, 1) := by decide +kernel
theorem dX8_copy_119 : decode cX8_copy 119 = .ok (.getfield 123, 3) := by decide +kernel
theorem dX8_copy_122 : decode cX8_copy 122 = .ok (.iload 6, 2) := by decide +kernel
theorem dX8_copy_124 : decode cX8_copy 124 = .ok (.aload_n 0, 1) := by decide +kernel
theorem dX8_copy_125 : decode cX8_copy 125 = .ok (.getfield 120, 3) := by decide +kernel
theorem dX8_copy_128 : decode cX8_copy 128 = .ok (.bipush 40, 2) := by decide +kernel
theorem dX8_copy_130 : decode cX8_copy 130 = .ok (.iload_n 1, 1) := by decide +kernel
theorem dX8_copy_131 : decode cX8_copy 131 = .ok (.imul, 1) := by decide +kernel
theorem dX8_copy_132 : decode cX8_copy 132 = .ok (.iload_n 2, 1) := by decide +kernel
theorem dX8_copy_133 : decode cX8_copy 133 = .ok (.iadd, 1) := by decide +kernel
theorem dX8_copy_134 : decode cX8_copy 134 = .ok (.iload 6, 2) := by decide +kernel
theorem dX8_copy_136 : decode cX8_copy 136 = .ok (.iadd, 1) := by decide +kernel
theorem dX8_copy_137 : decode cX8_copy 137 = .ok (.iaload, 1) := by decide +kernel
theorem dX8_copy_138 : decode cX8_copy 138 = .ok (.iastore, 1) := by decide +kernel
theorem dX8_copy_139 : decode cX8_copy 139 = .ok (.iinc 6 1, 3) := by decide +kernel
theorem dX8_copy_142 : decode cX8_copy 142 = .ok (.goto (-31), 3) := by decide +kernel
theorem dX8_copy_145 : decode cX8_copy 145 = .ok (.iconst 0, 1) := by decide +kernel
theorem dX8_copy_146 : decode cX8_copy 146 = .ok (.istore 6, 2) := by decide +kernel
theorem dX8_copy_148 : decode cX8_copy 148 = .ok (.iload 6, 2) := by decide +kernel
theorem dX8_copy_150 : decode cX8_copy 150 = .ok (.iload 5, 2) := by decide +kernel
theorem dX8_copy_152 : decode cX8_copy 152 = .ok (.if_icmp .ge 31, 3) := by decide +kernel
theorem dX8_copy_155 : decode cX8_copy 155 = .ok (.aload_n 0, 1) := by decide +kernel
theorem dX8_copy_156 : decode cX8_copy 156 = .ok (.getfield 120, 3) := by decide +kernel
theorem dX8_copy_159 : decode cX8_copy 159 = .ok (.bipush 40, 2) := by decide +kernel
theorem dX8_copy_161 : decode cX8_copy 161 = .ok (.iload_n 3, 1) := by decide +kernel
theorem dX8_copy_162 : decode cX8_copy 162 = .ok (.imul, 1) := by decide +kernel
theorem dX8_copy_163 : decode cX8_copy 163 = .ok (.iload 4, 2) := by decide +kernel
theorem dX8_copy_165 : decode cX8_copy 165 = .ok (.iadd, 1) := by decide +kernel
theorem dX8_copy_166 : decode cX8_copy 166 = .ok (.iload 6, 2) := by decide +kernel
theorem dX8_copy_168 : decode cX8_copy 168 = .ok (.iadd, 1) := by decide +kernel
theorem dX8_copy_169 : decode cX8_copy 169 = .ok (.aload_n 0, 1) := by decide +kernel
theorem dX8_copy_170 : decode cX8_copy 170 = .ok (.getfield 123, 3) := by decide +kernel
theorem dX8_copy_173 : decode cX8_copy 173 = .ok (.iload 6, 2) := by decide +kernel
theorem dX8_copy_175 : decode cX8_copy 175 = .ok (.iaload, 1) := by decide +kernel
theorem dX8_copy_176 : decode cX8_copy 176 = .ok (.iastore, 1) := by decide +kernel
theorem dX8_copy_177 : decode cX8_copy 177 = .ok (.iinc 6 1, 3) := by decide +kernel
theorem dX8_copy_180 : decode cX8_copy 180 = .ok (.goto (-32), 3) := by decide +kernel
theorem dX8_copy_183 : decode cX8_copy 183 = .ok (.iload 5, 2) := by decide +kernel
theorem dX8_copy_185 : decode cX8_copy 185 = .ok (.ireturn, 1) := by decide +kernel
theorem dX8_sorts_0 : decode cX8_sorts 0 = .ok (.iload_n 1, 1) := by decide +kernel
theorem dX8_sorts_1 : decode cX8_sorts 1 = .ok (.invokestatic 304, 3) := by decide +kernel
theorem dX8_sorts_4 : decode cX8_sorts 4 = .ok (.ifCond .eq 23, 3) := by decide +kernel
theorem dX8_sorts_7 : decode cX8_sorts 7 = .ok (.iload_n 2, 1) := by decide +kernel
theorem dX8_sorts_8 : decode cX8_sorts 8 = .ok (.iconst 0, 1) := by decide +kernel
theorem dX8_sorts_9 : decode cX8_sorts 9 = .ok (.iconst 2, 1) := by decide +kernel
theorem dX8_sorts_10 : decode cX8_sorts 10 = .ok (.invokestatic 132, 3) := by decide +kernel
theorem dX8_sorts_13 : decode cX8_sorts 13 = .ok (.ifCond .eq 14, 3) := by decide +kernel
theorem dX8_sorts_16 : decode cX8_sorts 16 = .ok (.iload 4, 2) := by decide +kernel
theorem dX8_sorts_18 : decode cX8_sorts 18 = .ok (.iconst 0, 1) := by decide +kernel
theorem dX8_sorts_19 : decode cX8_sorts 19 = .ok (.bipush 8, 2) := by decide +kernel
theorem dX8_sorts_21 : decode cX8_sorts 21 = .ok (.invokestatic 132, 3) := by decide +kernel
theorem dX8_sorts_24 : decode cX8_sorts 24 = .ok (.ifCond .ne 6, 3) := by decide +kernel
theorem dX8_sorts_27 : decode cX8_sorts 27 = .ok (.bipush (-2), 2) := by decide +kernel
theorem dX8_sorts_29 : decode cX8_sorts 29 = .ok (.ireturn, 1) := by decide +kernel
theorem dX8_sorts_30 : decode cX8_sorts 30 = .ok (.aload_n 0, 1) := by decide +kernel
theorem dX8_sorts_31 : decode cX8_sorts 31 = .ok (.getfield 114, 3) := by decide +kernel
theorem dX8_sorts_34 : decode cX8_sorts 34 = .ok (.iload_n 1, 1) := by decide +kernel
theorem dX8_sorts_35 : decode cX8_sorts 35 = .ok (.iaload, 1) := by decide +kernel
theorem dX8_sorts_36 : decode cX8_sorts 36 = .ok (.ifCond .lt 16, 3) := by decide +kernel
theorem dX8_sorts_39 : decode cX8_sorts 39 = .ok (.aload_n 0, 1) := by decide +kernel
theorem dX8_sorts_40 : decode cX8_sorts 40 = .ok (.getfield 114, 3) := by decide +kernel
theorem dX8_sorts_43 : decode cX8_sorts 43 = .ok (.iload_n 1, 1) := by decide +kernel
theorem dX8_sorts_44 : decode cX8_sorts 44 = .ok (.iaload, 1) := by decide +kernel
theorem dX8_sorts_45 : decode cX8_sorts 45 = .ok (.iload_n 2, 1) := by decide +kernel
theorem dX8_sorts_46 : decode cX8_sorts 46 = .ok (.if_icmp .eq 6, 3) := by decide +kernel
theorem dX8_sorts_49 : decode cX8_sorts 49 = .ok (.bipush (-13), 2) := by decide +kernel
theorem dX8_sorts_51 : decode cX8_sorts 51 = .ok (.ireturn, 1) := by decide +kernel
theorem dX8_sorts_52 : decode cX8_sorts 52 = .ok (.aload_n 0, 1) := by decide +kernel
theorem dX8_sorts_53 : decode cX8_sorts 53 = .ok (.getfield 114, 3) := by decide +kernel
theorem dX8_sorts_56 : decode cX8_sorts 56 = .ok (.iload_n 1, 1) := by decide +kernel
theorem dX8_sorts_57 : decode cX8_sorts 57 = .ok (.iaload, 1) := by decide +kernel
theorem dX8_sorts_58 : decode cX8_sorts 58 = .ok (.ifCond .ge 6, 3) := by decide +kernel
theorem dX8_sorts_61 : decode cX8_sorts 61 = .ok (.bipush (-11), 2) := by decide +kernel
theorem dX8_sorts_63 : decode cX8_sorts 63 = .ok (.ireturn, 1) := by decide +kernel
theorem dX8_sorts_64 : decode cX8_sorts 64 = .ok (.iconst 0, 1) := by decide +kernel
theorem dX8_sorts_65 : decode cX8_sorts 65 = .ok (.istore 5, 2) := by decide +kernel
theorem dX8_sorts_67 : decode cX8_sorts 67 = .ok (.iconst 0, 1) := by decide +kernel
theorem dX8_sorts_68 : decode cX8_sorts 68 = .ok (.istore 6, 2) := by decide +kernel
theorem dX8_sorts_70 : decode cX8_sorts 70 = .ok (.iload 6, 2) := by decide +kernel
theorem dX8_sorts_72 : decode cX8_sorts 72 = .ok (.iload 4, 2) := by decide +kernel
theorem dX8_sorts_74 : decode cX8_sorts 74 = .ok (.if_icmp .ge 80, 3) := by decide +kernel
theorem dX8_sorts_77 : decode cX8_sorts 77 = .ok (.iload_n 3, 1) := by decide +kernel
theorem dX8_sorts_78 : decode cX8_sorts 78 = .ok (.i2l, 1) := by decide +kernel
theorem dX8_sorts_79 : decode cX8_sorts 79 = .ok (.iconst 2, 1) := by decide +kernel
theorem dX8_sorts_80 : decode cX8_sorts 80 = .ok (.iload 6, 2) := by decide +kernel
theorem dX8_sorts_82 : decode cX8_sorts 82 = .ok (.imul, 1) := by decide +kernel
theorem dX8_sorts_83 : decode cX8_sorts 83 = .ok (.i2l, 1) := by decide +kernel
theorem dX8_sorts_84 : decode cX8_sorts 84 = .ok (.ladd, 1) := by decide +kernel
theorem dX8_sorts_85 : decode cX8_sorts 85 = .ok (.lstore 7, 2) := by decide +kernel
theorem dX8_sorts_87 : decode cX8_sorts 87 = .ok (.lload 7, 2) := by decide +kernel
theorem dX8_sorts_89 : decode cX8_sorts 89 = .ok (.lconst 0, 1) := by decide +kernel
theorem dX8_sorts_90 : decode cX8_sorts 90 = .ok (.lcmp, 1) := by decide +kernel
theorem dX8_sorts_91 : decode cX8_sorts 91 = .ok (.ifCond .lt 18, 3) := by decide +kernel
theorem dX8_sorts_94 : decode cX8_sorts 94 = .ok (.lload 7, 2) := by decide +kernel
theorem dX8_sorts_96 : decode cX8_sorts 96 = .ok (.lconst 1, 1) := by decide +kernel
theorem dX8_sorts_97 : decode cX8_sorts 97 = .ok (.ladd, 1) := by decide +kernel
theorem dX8_sorts_98 : decode cX8_sorts 98 = .ok (.aload_n 0, 1) := by decide +kernel
theorem dX8_sorts_99 : decode cX8_sorts 99 = .ok (.getfield 117, 3) := by decide +kernel
theorem dX8_sorts_102 : decode cX8_sorts 102 = .ok (.iload_n 1, 1) := by decide +kernel
theorem dX8_sorts_103 : decode cX8_sorts 103 = .ok (.iaload, 1) := by decide +kernel
theorem dX8_sorts_104 : decode cX8_sorts 104 = .ok (.i2l, 1) := by decide +kernel
theorem dX8_sorts_105 : decode cX8_sorts 105 = .ok (.lcmp, 1) := by decide +kernel
theorem dX8_sorts_106 : decode cX8_sorts 106 = .ok (.ifCond .lt 6, 3) := by decide +kernel
theorem dX8_sorts_109 : decode cX8_sorts 109 = .ok (.bipush (-12), 2) := by decide +kernel
theorem dX8_sorts_111 : decode cX8_sorts 111 = .ok (.ireturn, 1) := by decide +kernel
theorem dX8_sorts_112 : decode cX8_sorts 112 = .ok (.bipush 40, 2) := by decide +kernel
theorem dX8_sorts_114 : decode cX8_sorts 114 = .ok (.iload_n 1, 1) := by decide +kernel
theorem dX8_sorts_115 : decode cX8_sorts 115 = .ok (.imul, 1) := by decide +kernel
theorem dX8_sorts_116 : decode cX8_sorts 116 = .ok (.lload 7, 2) := by decide +kernel
theorem dX8_sorts_118 : decode cX8_sorts 118 = .ok (.l2i, 1) := by decide +kernel
theorem dX8_sorts_119 : decode cX8_sorts 119 = .ok (.iadd, 1) := by decide +kernel
theorem dX8_sorts_120 : decode cX8_sorts 120 = .ok (.istore 9, 2) := by decide +kernel
theorem dX8_sorts_122 : decode cX8_sorts 122 = .ok (.aload_n 0, 1) := by decide +kernel
theorem dX8_sorts_123 : decode cX8_sorts 123 = .ok (.aload_n 0, 1) := by decide +kernel
theorem dX8_sorts_124 : decode cX8_sorts 124 = .ok (.getfield 120, 3) := by decide +kernel
theorem dX8_sorts_127 : decode cX8_sorts 127 = .ok (.iload 9, 2) := by decide +kernel
theorem dX8_sorts_129 : decode cX8_sorts 129 = .ok (.iaload, 1) := by decide +kernel
theorem dX8_sorts_130 : decode cX8_sorts 130 = .ok (.aload_n 0, 1) := by decide +kernel
theorem dX8_sorts_131 : decode cX8_sorts 131 = .ok (.getfield 120, 3) := by decide +kernel
theorem dX8_sorts_134 : decode cX8_sorts 134 = .ok (.iload 9, 2) := by decide +kernel
theorem dX8_sorts_136 : decode cX8_sorts 136 = .ok (.iconst 1, 1) := by decide +kernel
theorem dX8_sorts_137 : decode cX8_sorts 137 = .ok (.iadd, 1) := by decide +kernel
theorem dX8_sorts_138 : decode cX8_sorts 138 = .ok (.iaload, 1) := by decide +kernel
theorem dX8_sorts_139 : decode cX8_sorts 139 = .ok (.invokevirtual 329, 3) := by decide +kernel
theorem dX8_sorts_142 : decode cX8_sorts 142 = .ok (.ifCond .lt 6, 3) := by decide +kernel
theorem dX8_sorts_145 : decode cX8_sorts 145 = .ok (.iinc 5 1, 3) := by decide +kernel
theorem dX8_sorts_148 : decode cX8_sorts 148 = .ok (.iinc 6 1, 3) := by decide +kernel
theorem dX8_sorts_151 : decode cX8_sorts 151 = .ok (.goto (-81), 3) := by decide +kernel
theorem dX8_sorts_154 : decode cX8_sorts 154 = .ok (.iload 5, 2) := by decide +kernel
theorem dX8_sorts_156 : decode cX8_sorts 156 = .ok (.ireturn, 1) := by decide +kernel
theorem dX8_isUnder_0 : decode cX8_isUnder 0 = .ok (.iload_n 1, 1) := by decide +kernel
theorem dX8_isUnder_1 : decode cX8_isUnder 1 = .ok (.ifCond .eq 43, 3) := by decide +kernel
theorem dX8_isUnder_4 : decode cX8_isUnder 4 = .ok (.iload_n 0, 1) := by decide +kernel
theorem dX8_isUnder_5 : decode cX8_isUnder 5 = .ok (.iload_n 1, 1) := by decide +kernel
theorem dX8_isUnder_6 : decode cX8_isUnder 6 = .ok (.if_icmp .eq 38, 3) := by decide +kernel
theorem dX8_isUnder_9 : decode cX8_isUnder 9 = .ok (.iload_n 1, 1) := by decide +kernel
theorem dX8_isUnder_10 : decode cX8_isUnder 10 = .ok (.iconst 1, 1) := by decide +kernel
theorem dX8_isUnder_11 : decode cX8_isUnder 11 = .ok (.if_icmp .ne 13, 3) := by decide +kernel
theorem dX8_isUnder_14 : decode cX8_isUnder 14 = .ok (.iload_n 0, 1) := by decide +kernel
theorem dX8_isUnder_15 : decode cX8_isUnder 15 = .ok (.iconst 3, 1) := by decide +kernel
theorem dX8_isUnder_16 : decode cX8_isUnder 16 = .ok (.if_icmp .eq 28, 3) := by decide +kernel
theorem dX8_isUnder_19 : decode cX8_isUnder 19 = .ok (.iload_n 0, 1) := by decide +kernel
theorem dX8_isUnder_20 : decode cX8_isUnder 20 = .ok (.iconst 5, 1) := by decide +kernel
theorem dX8_isUnder_21 : decode cX8_isUnder 21 = .ok (.if_icmp .eq 23, 3) := by decide +kernel
theorem dX8_isUnder_24 : decode cX8_isUnder 24 = .ok (.iload_n 1, 1) := by decide +kernel
theorem dX8_isUnder_25 : decode cX8_isUnder 25 = .ok (.iconst 3, 1) := by decide +kernel
theorem dX8_isUnder_26 : decode cX8_isUnder 26 = .ok (.if_icmp .ne 8, 3) := by decide +kernel
theorem dX8_isUnder_29 : decode cX8_isUnder 29 = .ok (.iload_n 0, 1) := by decide +kernel
theorem dX8_isUnder_30 : decode cX8_isUnder 30 = .ok (.iconst 5, 1) := by decide +kernel
theorem dX8_isUnder_31 : decode cX8_isUnder 31 = .ok (.if_icmp .eq 13, 3) := by decide +kernel
theorem dX8_isUnder_34 : decode cX8_isUnder 34 = .ok (.iload_n 1, 1) := by decide +kernel
theorem dX8_isUnder_35 : decode cX8_isUnder 35 = .ok (.iconst 2, 1) := by decide +kernel
theorem dX8_isUnder_36 : decode cX8_isUnder 36 = .ok (.if_icmp .ne 12, 3) := by decide +kernel
theorem dX8_isUnder_39 : decode cX8_isUnder 39 = .ok (.iload_n 0, 1) := by decide +kernel
theorem dX8_isUnder_40 : decode cX8_isUnder 40 = .ok (.iconst 4, 1) := by decide +kernel
theorem dX8_isUnder_41 : decode cX8_isUnder 41 = .ok (.if_icmp .ne 7, 3) := by decide +kernel
theorem dX8_isUnder_44 : decode cX8_isUnder 44 = .ok (.iconst 1, 1) := by decide +kernel
theorem dX8_isUnder_45 : decode cX8_isUnder 45 = .ok (.goto 4, 3) := by decide +kernel
theorem dX8_isUnder_48 : decode cX8_isUnder 48 = .ok (.iconst 0, 1) := by decide +kernel
theorem dX8_isUnder_49 : decode cX8_isUnder 49 = .ok (.ireturn, 1) := by decide +kernel
theorem dX8_taken_0 : decode cX8_taken 0 = .ok (.iload_n 2, 1) := by decide +kernel
theorem dX8_taken_1 : decode cX8_taken 1 = .ok (.iconst 0, 1) := by decide +kernel
theorem dX8_taken_2 : decode cX8_taken 2 = .ok (.iconst 5, 1) := by decide +kernel
theorem dX8_taken_3 : decode cX8_taken 3 = .ok (.invokestatic 132, 3) := by decide +kernel
theorem dX8_taken_6 : decode cX8_taken 6 = .ok (.ifCond .ne 6, 3) := by decide +kernel
theorem dX8_taken_9 : decode cX8_taken 9 = .ok (.bipush (-2), 2) := by decide +kernel
theorem dX8_taken_11 : decode cX8_taken 11 = .ok (.ireturn, 1) := by decide +kernel
theorem dX8_taken_12 : decode cX8_taken 12 = .ok (.aload_n 0, 1) := by decide +kernel
theorem dX8_taken_13 : decode cX8_taken 13 = .ok (.iload_n 1, 1) := by decide +kernel
theorem dX8_taken_14 : decode cX8_taken 14 = .ok (.invokevirtual 152, 3) := by decide +kernel
theorem dX8_taken_17 : decode cX8_taken 17 = .ok (.ifCond .ne 6, 3) := by decide +kernel
theorem dX8_taken_20 : decode cX8_taken 20 = .ok (.bipush (-11), 2) := by decide +kernel
theorem dX8_taken_22 : decode cX8_taken 22 = .ok (.ireturn, 1) := by decide +kernel
theorem dX8_taken_23 : decode cX8_taken 23 = .ok (.aload_n 0, 1) := by decide +kernel
theorem dX8_taken_24 : decode cX8_taken 24 = .ok (.getfield 31, 3) := by decide +kernel
theorem dX8_taken_27 : decode cX8_taken 27 = .ok (.iload_n 1, 1) := by decide +kernel
theorem dX8_taken_28 : decode cX8_taken 28 = .ok (.iaload, 1) := by decide +kernel
theorem dX8_taken_29 : decode cX8_taken 29 = .ok (.iload_n 2, 1) := by decide +kernel
theorem dX8_taken_30 : decode cX8_taken 30 = .ok (.invokestatic 332, 3) := by decide +kernel
theorem dX8_taken_33 : decode cX8_taken 33 = .ok (.ifCond .eq 12, 3) := by decide +kernel
theorem dX8_taken_36 : decode cX8_taken 36 = .ok (.aload_n 0, 1) := by decide +kernel
theorem dX8_taken_37 : decode cX8_taken 37 = .ok (.getfield 37, 3) := by decide +kernel
theorem dX8_taken_40 : decode cX8_taken 40 = .ok (.iload_n 1, 1) := by decide +kernel
theorem dX8_taken_41 : decode cX8_taken 41 = .ok (.iaload, 1) := by decide +kernel
theorem dX8_taken_42 : decode cX8_taken 42 = .ok (.goto 5, 3) := by decide +kernel
theorem dX8_taken_45 : decode cX8_taken 45 = .ok (.bipush (-13), 2) := by decide +kernel
theorem dX8_taken_47 : decode cX8_taken 47 = .ok (.ireturn, 1) := by decide +kernel
