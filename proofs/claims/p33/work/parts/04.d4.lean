theorem dL_law_91 : decode cL_law 91 = .ok (.iload_n 2, 1) := by decide +kernel
theorem dL_law_92 : decode cL_law 92 = .ok (.bipush 60, 2) := by decide +kernel
theorem dL_law_94 : decode cL_law 94 = .ok (.if_icmp .ge 131, 3) := by decide +kernel
theorem dL_law_97 : decode cL_law 97 = .ok (.aload_n 0, 1) := by decide +kernel
theorem dL_law_98 : decode cL_law 98 = .ok (.iconst 3, 1) := by decide +kernel
theorem dL_law_99 : decode cL_law 99 = .ok (.iload_n 2, 1) := by decide +kernel
theorem dL_law_100 : decode cL_law 100 = .ok (.bipush 26, 2) := by decide +kernel
theorem dL_law_102 : decode cL_law 102 = .ok (.irem, 1) := by decide +kernel
theorem dL_law_103 : decode cL_law 103 = .ok (.iadd, 1) := by decide +kernel
theorem dL_law_104 : decode cL_law 104 = .ok (.invokestatic 16, 3) := by decide +kernel
theorem dL_law_107 : decode cL_law 107 = .ok (.iload_n 2, 1) := by decide +kernel
theorem dL_law_108 : decode cL_law 108 = .ok (.bipush 26, 2) := by decide +kernel
theorem dL_law_110 : decode cL_law 110 = .ok (.idiv, 1) := by decide +kernel
theorem dL_law_111 : decode cL_law 111 = .ok (.bipush 6, 2) := by decide +kernel
theorem dL_law_113 : decode cL_law 113 = .ok (.imul, 1) := by decide +kernel
theorem dL_law_114 : decode cL_law 114 = .ok (.ishr, 1) := by decide +kernel
theorem dL_law_115 : decode cL_law 115 = .ok (.istore_n 3, 1) := by decide +kernel
theorem dL_law_116 : decode cL_law 116 = .ok (.aload_n 1, 1) := by decide +kernel
theorem dL_law_117 : decode cL_law 117 = .ok (.iconst 0, 1) := by decide +kernel
theorem dL_law_118 : decode cL_law 118 = .ok (.invokevirtual 34, 3) := by decide +kernel
theorem dL_law_121 : decode cL_law 121 = .ok (.istore 4, 2) := by decide +kernel
theorem dL_law_123 : decode cL_law 123 = .ok (.aload_n 1, 1) := by decide +kernel
theorem dL_law_124 : decode cL_law 124 = .ok (.iconst 3, 1) := by decide +kernel
theorem dL_law_125 : decode cL_law 125 = .ok (.invokevirtual 34, 3) := by decide +kernel
theorem dL_law_128 : decode cL_law 128 = .ok (.istore 5, 2) := by decide +kernel
theorem dL_law_130 : decode cL_law 130 = .ok (.aload_n 1, 1) := by decide +kernel
theorem dL_law_131 : decode cL_law 131 = .ok (.iload_n 3, 1) := by decide +kernel
theorem dL_law_132 : decode cL_law 132 = .ok (.invokestatic 37, 3) := by decide +kernel
theorem dL_law_135 : decode cL_law 135 = .ok (.ifCond .eq 32, 3) := by decide +kernel
theorem dL_law_138 : decode cL_law 138 = .ok (.aload_n 1, 1) := by decide +kernel
theorem dL_law_139 : decode cL_law 139 = .ok (.iconst 0, 1) := by decide +kernel
theorem dL_law_140 : decode cL_law 140 = .ok (.invokevirtual 34, 3) := by decide +kernel
theorem dL_law_143 : decode cL_law 143 = .ok (.iload 4, 2) := by decide +kernel
theorem dL_law_145 : decode cL_law 145 = .ok (.if_icmp .lt 22, 3) := by decide +kernel
theorem dL_law_148 : decode cL_law 148 = .ok (.aload_n 1, 1) := by decide +kernel
theorem dL_law_149 : decode cL_law 149 = .ok (.iconst 3, 1) := by decide +kernel
theorem dL_law_150 : decode cL_law 150 = .ok (.invokevirtual 34, 3) := by decide +kernel
theorem dL_law_153 : decode cL_law 153 = .ok (.iload 5, 2) := by decide +kernel
theorem dL_law_155 : decode cL_law 155 = .ok (.if_icmp .lt 12, 3) := by decide +kernel
theorem dL_law_158 : decode cL_law 158 = .ok (.aload_n 1, 1) := by decide +kernel
theorem dL_law_159 : decode cL_law 159 = .ok (.iconst 2, 1) := by decide +kernel
theorem dL_law_160 : decode cL_law 160 = .ok (.invokevirtual 34, 3) := by decide +kernel
theorem dL_law_163 : decode cL_law 163 = .ok (.iconst 1, 1) := by decide +kernel
theorem dL_law_164 : decode cL_law 164 = .ok (.if_icmp .ge 5, 3) := by decide +kernel
theorem dL_law_167 : decode cL_law 167 = .ok (.iconst 0, 1) := by decide +kernel
theorem dL_law_168 : decode cL_law 168 = .ok (.ireturn, 1) := by decide +kernel
theorem dL_law_169 : decode cL_law 169 = .ok (.iload_n 2, 1) := by decide +kernel
theorem dL_law_170 : decode cL_law 170 = .ok (.bipush 6, 2) := by decide +kernel
theorem dL_law_172 : decode cL_law 172 = .ok (.irem, 1) := by decide +kernel
theorem dL_law_173 : decode cL_law 173 = .ok (.iconst 5, 1) := by decide +kernel
theorem dL_law_174 : decode cL_law 174 = .ok (.if_icmp .eq 6, 3) := by decide +kernel
theorem dL_law_177 : decode cL_law 177 = .ok (.goto 42, 3) := by decide +kernel
theorem dL_law_180 : decode cL_law 180 = .ok (.aload_n 1, 1) := by decide +kernel
theorem dL_law_181 : decode cL_law 181 = .ok (.invokevirtual 41, 3) := by decide +kernel
theorem dL_law_184 : decode cL_law 184 = .ok (.lstore 6, 2) := by decide +kernel
theorem dL_law_186 : decode cL_law 186 = .ok (.aload_n 1, 1) := by decide +kernel
theorem dL_law_187 : decode cL_law 187 = .ok (.invokestatic 45, 3) := by decide +kernel
theorem dL_law_190 : decode cL_law 190 = .ok (.ifCond .eq 27, 3) := by decide +kernel
theorem dL_law_193 : decode cL_law 193 = .ok (.aload_n 1, 1) := by decide +kernel
theorem dL_law_194 : decode cL_law 194 = .ok (.invokestatic 49, 3) := by decide +kernel
theorem dL_law_197 : decode cL_law 197 = .ok (.ifCond .eq 20, 3) := by decide +kernel
theorem dL_law_200 : decode cL_law 200 = .ok (.aload_n 1, 1) := by decide +kernel
theorem dL_law_201 : decode cL_law 201 = .ok (.invokestatic 52, 3) := by decide +kernel
theorem dL_law_204 : decode cL_law 204 = .ok (.ifCond .eq 13, 3) := by decide +kernel
theorem dL_law_207 : decode cL_law 207 = .ok (.aload_n 1, 1) := by decide +kernel
theorem dL_law_208 : decode cL_law 208 = .ok (.invokevirtual 41, 3) := by decide +kernel
theorem dL_law_211 : decode cL_law 211 = .ok (.lload 6, 2) := by decide +kernel
theorem dL_law_213 : decode cL_law 213 = .ok (.lcmp, 1) := by decide +kernel
theorem dL_law_214 : decode cL_law 214 = .ok (.ifCond .eq 5, 3) := by decide +kernel
theorem dL_law_217 : decode cL_law 217 = .ok (.iconst 0, 1) := by decide +kernel
theorem dL_law_218 : decode cL_law 218 = .ok (.ireturn, 1) := by decide +kernel
theorem dL_law_219 : decode cL_law 219 = .ok (.iinc 2 1, 3) := by decide +kernel
theorem dL_law_222 : decode cL_law 222 = .ok (.goto (-131), 3) := by decide +kernel
theorem dL_law_225 : decode cL_law 225 = .ok (.iconst 1, 1) := by decide +kernel
theorem dL_law_226 : decode cL_law 226 = .ok (.ireturn, 1) := by decide +kernel
theorem dL_act_0 : decode cL_act 0 = .ok (.iload_n 1, 1) := by decide +kernel
theorem dL_act_1 : decode cL_act 1 = .ok (.iconst 3, 1) := by decide +kernel
theorem dL_act_2 : decode cL_act 2 = .ok (.ishr, 1) := by decide +kernel
theorem dL_act_3 : decode cL_act 3 = .ok (.iconst 4, 1) := by decide +kernel
theorem dL_act_4 : decode cL_act 4 = .ok (.invokestatic 22, 3) := by decide +kernel
theorem dL_act_7 : decode cL_act 7 = .ok (.istore_n 2, 1) := by decide +kernel
theorem dL_act_8 : decode cL_act 8 = .ok (.iload_n 1, 1) := by decide +kernel
theorem dL_act_9 : decode cL_act 9 = .ok (.iconst 5, 1) := by decide +kernel
theorem dL_act_10 : decode cL_act 10 = .ok (.ishr, 1) := by decide +kernel
theorem dL_act_11 : decode cL_act 11 = .ok (.aload_n 0, 1) := by decide +kernel
theorem dL_act_12 : decode cL_act 12 = .ok (.iconst 2, 1) := by decide +kernel
theorem dL_act_13 : decode cL_act 13 = .ok (.invokevirtual 34, 3) := by decide +kernel
theorem dL_act_16 : decode cL_act 16 = .ok (.iconst 2, 1) := by decide +kernel
theorem dL_act_17 : decode cL_act 17 = .ok (.iadd, 1) := by decide +kernel
theorem dL_act_18 : decode cL_act 18 = .ok (.invokestatic 22, 3) := by decide +kernel
theorem dL_act_21 : decode cL_act 21 = .ok (.istore_n 3, 1) := by decide +kernel
theorem dL_act_22 : decode cL_act 22 = .ok (.iload_n 1, 1) := by decide +kernel
theorem dL_act_23 : decode cL_act 23 = .ok (.iconst 4, 1) := by decide +kernel
theorem dL_act_24 : decode cL_act 24 = .ok (.ishr, 1) := by decide +kernel
theorem dL_act_25 : decode cL_act 25 = .ok (.iconst 1, 1) := by decide +kernel
theorem dL_act_26 : decode cL_act 26 = .ok (.aload_n 0, 1) := by decide +kernel
theorem dL_act_27 : decode cL_act 27 = .ok (.iconst 3, 1) := by decide +kernel
theorem dL_act_28 : decode cL_act 28 = .ok (.invokevirtual 34, 3) := by decide +kernel
theorem dL_act_31 : decode cL_act 31 = .ok (.invokestatic 55, 3) := by decide +kernel
theorem dL_act_34 : decode cL_act 34 = .ok (.invokestatic 22, 3) := by decide +kernel
theorem dL_act_37 : decode cL_act 37 = .ok (.istore 4, 2) := by decide +kernel
theorem dL_act_39 : decode cL_act 39 = .ok (.iload_n 1, 1) := by decide +kernel
theorem dL_act_40 : decode cL_act 40 = .ok (.bipush 14, 2) := by decide +kernel
theorem dL_act_42 : decode cL_act 42 = .ok (.invokestatic 22, 3) := by decide +kernel
theorem dL_act_45 : decode cL_act 45 = .ok (.tableswitch 451 0 12 #[67, 67, 99, 99, 99, 154, 197, 257, 257, 307, 328, 393, 420], 67) := by decide +kernel
theorem dL_act_112 : decode cL_act 112 = .ok (.aload_n 0, 1) := by decide +kernel
theorem dL_act_113 : decode cL_act 113 = .ok (.iload_n 3, 1) := by decide +kernel
theorem dL_act_114 : decode cL_act 114 = .ok (.iconst 1, 1) := by decide +kernel
theorem dL_act_115 : decode cL_act 115 = .ok (.iload_n 1, 1) := by decide +kernel
theorem dL_act_116 : decode cL_act 116 = .ok (.bipush 6, 2) := by decide +kernel
theorem dL_act_118 : decode cL_act 118 = .ok (.ishr, 1) := by decide +kernel
theorem dL_act_119 : decode cL_act 119 = .ok (.bipush 80, 2) := by decide +kernel
theorem dL_act_121 : decode cL_act 121 = .ok (.invokestatic 22, 3) := by decide +kernel
theorem dL_act_124 : decode cL_act 124 = .ok (.iadd, 1) := by decide +kernel
theorem dL_act_125 : decode cL_act 125 = .ok (.invokevirtual 60, 3) := by decide +kernel
theorem dL_act_128 : decode cL_act 128 = .ok (.aload_n 0, 1) := by decide +kernel
theorem dL_act_129 : decode cL_act 129 = .ok (.iconst 3, 1) := by decide +kernel
theorem dL_act_130 : decode cL_act 130 = .ok (.invokevirtual 34, 3) := by decide +kernel
theorem dL_act_133 : decode cL_act 133 = .ok (.iconst 1, 1) := by decide +kernel
theorem dL_act_134 : decode cL_act 134 = .ok (.isub, 1) := by decide +kernel
theorem dL_act_135 : decode cL_act 135 = .ok (.if_icmp .ne 7, 3) := by decide +kernel
theorem dL_act_138 : decode cL_act 138 = .ok (.iconst 1, 1) := by decide +kernel
theorem dL_act_139 : decode cL_act 139 = .ok (.goto 4, 3) := by decide +kernel
theorem dL_act_142 : decode cL_act 142 = .ok (.iconst 0, 1) := by decide +kernel
theorem dL_act_143 : decode cL_act 143 = .ok (.ireturn, 1) := by decide +kernel
theorem dL_act_144 : decode cL_act 144 = .ok (.aload_n 0, 1) := by decide +kernel
theorem dL_act_145 : decode cL_act 145 = .ok (.iload_n 2, 1) := by decide +kernel
theorem dL_act_146 : decode cL_act 146 = .ok (.iload 4, 2) := by decide +kernel
theorem dL_act_148 : decode cL_act 148 = .ok (.invokevirtual 63, 3) := by decide +kernel
theorem dL_act_151 : decode cL_act 151 = .ok (.aload_n 0, 1) := by decide +kernel
theorem dL_act_152 : decode cL_act 152 = .ok (.iload 4, 2) := by decide +kernel
theorem dL_act_154 : decode cL_act 154 = .ok (.iconst 3, 1) := by decide +kernel
theorem dL_act_155 : decode cL_act 155 = .ok (.invokevirtual 66, 3) := by decide +kernel
theorem dL_act_158 : decode cL_act 158 = .ok (.if_icmp .ne 39, 3) := by decide +kernel
theorem dL_act_161 : decode cL_act 161 = .ok (.aload_n 0, 1) := by decide +kernel
theorem dL_act_162 : decode cL_act 162 = .ok (.iload 4, 2) := by decide +kernel
theorem dL_act_164 : decode cL_act 164 = .ok (.iconst 1, 1) := by decide +kernel
theorem dL_act_165 : decode cL_act 165 = .ok (.invokevirtual 66, 3) := by decide +kernel
theorem dL_act_168 : decode cL_act 168 = .ok (.iconst 1, 1) := by decide +kernel
theorem dL_act_169 : decode cL_act 169 = .ok (.if_icmp .ne 28, 3) := by decide +kernel
theorem dL_act_172 : decode cL_act 172 = .ok (.aload_n 0, 1) := by decide +kernel
theorem dL_act_173 : decode cL_act 173 = .ok (.iload 4, 2) := by decide +kernel
theorem dL_act_175 : decode cL_act 175 = .ok (.iconst 2, 1) := by decide +kernel
theorem dL_act_176 : decode cL_act 176 = .ok (.invokevirtual 66, 3) := by decide +kernel
theorem dL_act_179 : decode cL_act 179 = .ok (.iload_n 2, 1) := by decide +kernel
theorem dL_act_180 : decode cL_act 180 = .ok (.if_icmp .ne 17, 3) := by decide +kernel
theorem dL_act_183 : decode cL_act 183 = .ok (.aload_n 0, 1) := by decide +kernel
theorem dL_act_184 : decode cL_act 184 = .ok (.iload 4, 2) := by decide +kernel
theorem dL_act_186 : decode cL_act 186 = .ok (.iconst 4, 1) := by decide +kernel
theorem dL_act_187 : decode cL_act 187 = .ok (.invokevirtual 66, 3) := by decide +kernel
theorem dL_act_190 : decode cL_act 190 = .ok (.ifCond .ne 7, 3) := by decide +kernel
theorem dL_act_193 : decode cL_act 193 = .ok (.iconst 1, 1) := by decide +kernel
theorem dL_act_194 : decode cL_act 194 = .ok (.goto 4, 3) := by decide +kernel
theorem dL_act_197 : decode cL_act 197 = .ok (.iconst 0, 1) := by decide +kernel
theorem dL_act_198 : decode cL_act 198 = .ok (.ireturn, 1) := by decide +kernel
theorem dL_act_199 : decode cL_act 199 = .ok (.aload_n 0, 1) := by decide +kernel
theorem dL_act_200 : decode cL_act 200 = .ok (.iload 4, 2) := by decide +kernel
theorem dL_act_202 : decode cL_act 202 = .ok (.invokevirtual 69, 3) := by decide +kernel
theorem dL_act_205 : decode cL_act 205 = .ok (.aload_n 0, 1) := by decide +kernel
theorem dL_act_206 : decode cL_act 206 = .ok (.iload 4, 2) := by decide +kernel
theorem dL_act_208 : decode cL_act 208 = .ok (.iconst 3, 1) := by decide +kernel
theorem dL_act_209 : decode cL_act 209 = .ok (.invokevirtual 66, 3) := by decide +kernel
theorem dL_act_212 : decode cL_act 212 = .ok (.if_icmp .ne 28, 3) := by decide +kernel
theorem dL_act_215 : decode cL_act 215 = .ok (.aload_n 0, 1) := by decide +kernel
theorem dL_act_216 : decode cL_act 216 = .ok (.iload 4, 2) := by decide +kernel
theorem dL_act_218 : decode cL_act 218 = .ok (.iconst 5, 1) := by decide +kernel
theorem dL_act_219 : decode cL_act 219 = .ok (.invokevirtual 66, 3) := by decide +kernel
theorem dL_act_222 : decode cL_act 222 = .ok (.ifCond .le 18, 3) := by decide +kernel
theorem dL_act_225 : decode cL_act 225 = .ok (.aload_n 0, 1) := by decide +kernel
theorem dL_act_226 : decode cL_act 226 = .ok (.iload 4, 2) := by decide +kernel
theorem dL_act_228 : decode cL_act 228 = .ok (.iconst 5, 1) := by decide +kernel
theorem dL_act_229 : decode cL_act 229 = .ok (.invokevirtual 66, 3) := by decide +kernel
theorem dL_act_232 : decode cL_act 232 = .ok (.iconst 3, 1) := by decide +kernel
theorem dL_act_233 : decode cL_act 233 = .ok (.if_icmp .ge 7, 3) := by decide +kernel
theorem dL_act_236 : decode cL_act 236 = .ok (.iconst 1, 1) := by decide +kernel
theorem dL_act_237 : decode cL_act 237 = .ok (.goto 4, 3) := by decide +kernel
theorem dL_act_240 : decode cL_act 240 = .ok (.iconst 0, 1) := by decide +kernel
theorem dL_act_241 : decode cL_act 241 = .ok (.ireturn, 1) := by decide +kernel
theorem dL_act_242 : decode cL_act 242 = .ok (.aload_n 0, 1) := by decide +kernel
theorem dL_act_243 : decode cL_act 243 = .ok (.iload 4, 2) := by decide +kernel
theorem dL_act_245 : decode cL_act 245 = .ok (.iconst 1, 1) := by decide +kernel
theorem dL_act_246 : decode cL_act 246 = .ok (.invokevirtual 66, 3) := by decide +kernel
theorem dL_act_249 : decode cL_act 249 = .ok (.iconst 1, 1) := by decide +kernel
theorem dL_act_250 : decode cL_act 250 = .ok (.if_icmp .ne 13, 3) := by decide +kernel
theorem dL_act_253 : decode cL_act 253 = .ok (.aload_n 0, 1) := by decide +kernel
theorem dL_act_254 : decode cL_act 254 = .ok (.iload 4, 2) := by decide +kernel
theorem dL_act_256 : decode cL_act 256 = .ok (.iconst 0, 1) := by decide +kernel
theorem dL_act_257 : decode cL_act 257 = .ok (.invokevirtual 72, 3) := by decide +kernel
theorem dL_act_260 : decode cL_act 260 = .ok (.goto 4, 3) := by decide +kernel
theorem dL_act_263 : decode cL_act 263 = .ok (.iconst 0, 1) := by decide +kernel
theorem dL_act_264 : decode cL_act 264 = .ok (.istore 5, 2) := by decide +kernel
theorem dL_act_266 : decode cL_act 266 = .ok (.aload_n 0, 1) := by decide +kernel
theorem dL_act_267 : decode cL_act 267 = .ok (.iload 4, 2) := by decide +kernel
theorem dL_act_269 : decode cL_act 269 = .ok (.invokevirtual 75, 3) := by decide +kernel
theorem dL_act_272 : decode cL_act 272 = .ok (.iload 5, 2) := by decide +kernel
theorem dL_act_274 : decode cL_act 274 = .ok (.if_icmp .ne 26, 3) := by decide +kernel
theorem dL_act_277 : decode cL_act 277 = .ok (.iload 5, 2) := by decide +kernel
theorem dL_act_279 : decode cL_act 279 = .ok (.bipush 40, 2) := by decide +kernel
theorem dL_act_281 : decode cL_act 281 = .ok (.if_icmp .gt 19, 3) := by decide +kernel
theorem dL_act_284 : decode cL_act 284 = .ok (.aload_n 0, 1) := by decide +kernel
theorem dL_act_285 : decode cL_act 285 = .ok (.iload 4, 2) := by decide +kernel
theorem dL_act_287 : decode cL_act 287 = .ok (.iconst 1, 1) := by decide +kernel
theorem dL_act_288 : decode cL_act 288 = .ok (.invokevirtual 66, 3) := by decide +kernel
theorem dL_act_291 : decode cL_act 291 = .ok (.iconst 2, 1) := by decide +kernel
theorem dL_act_292 : decode cL_act 292 = .ok (.irem, 1) := by decide +kernel
theorem dL_act_293 : decode cL_act 293 = .ok (.ifCond .ne 7, 3) := by decide +kernel
theorem dL_act_296 : decode cL_act 296 = .ok (.iconst 1, 1) := by decide +kernel
theorem dL_act_297 : decode cL_act 297 = .ok (.goto 4, 3) := by decide +kernel
theorem dL_act_300 : decode cL_act 300 = .ok (.iconst 0, 1) := by decide +kernel
theorem dL_act_301 : decode cL_act 301 = .ok (.ireturn, 1) := by decide +kernel
theorem dL_act_302 : decode cL_act 302 = .ok (.aload_n 0, 1) := by decide +kernel
theorem dL_act_303 : decode cL_act 303 = .ok (.iload_n 2, 1) := by decide +kernel
theorem dL_act_304 : decode cL_act 304 = .ok (.iload_n 3, 1) := by decide +kernel
theorem dL_act_305 : decode cL_act 305 = .ok (.invokevirtual 78, 3) := by decide +kernel
theorem dL_act_308 : decode cL_act 308 = .ok (.istore 6, 2) := by decide +kernel
theorem dL_act_310 : decode cL_act 310 = .ok (.iload 6, 2) := by decide +kernel
theorem dL_act_312 : decode cL_act 312 = .ok (.ifCond .lt 34, 3) := by decide +kernel
theorem dL_act_315 : decode cL_act 315 = .ok (.aload_n 0, 1) := by decide +kernel
theorem dL_act_316 : decode cL_act 316 = .ok (.iload 6, 2) := by decide +kernel
theorem dL_act_318 : decode cL_act 318 = .ok (.iconst 1, 1) := by decide +kernel
theorem dL_act_319 : decode cL_act 319 = .ok (.invokevirtual 66, 3) := by decide +kernel
theorem dL_act_322 : decode cL_act 322 = .ok (.iconst 2, 1) := by decide +kernel
theorem dL_act_323 : decode cL_act 323 = .ok (.if_icmp .ne 27, 3) := by decide +kernel
theorem dL_act_326 : decode cL_act 326 = .ok (.aload_n 0, 1) := by decide +kernel
theorem dL_act_327 : decode cL_act 327 = .ok (.iload 6, 2) := by decide +kernel
theorem dL_act_329 : decode cL_act 329 = .ok (.iconst 2, 1) := by decide +kernel
theorem dL_act_330 : decode cL_act 330 = .ok (.invokevirtual 66, 3) := by decide +kernel
theorem dL_act_333 : decode cL_act 333 = .ok (.iload_n 2, 1) := by decide +kernel
theorem dL_act_334 : decode cL_act 334 = .ok (.if_icmp .ne 16, 3) := by decide +kernel
theorem dL_act_337 : decode cL_act 337 = .ok (.aload_n 0, 1) := by decide +kernel
theorem dL_act_338 : decode cL_act 338 = .ok (.iload_n 2, 1) := by decide +kernel
theorem dL_act_339 : decode cL_act 339 = .ok (.iload_n 3, 1) := by decide +kernel
theorem dL_act_340 : decode cL_act 340 = .ok (.invokevirtual 81, 3) := by decide +kernel
theorem dL_act_343 : decode cL_act 343 = .ok (.ifCond .ne 7, 3) := by decide +kernel
theorem dL_act_346 : decode cL_act 346 = .ok (.iconst 1, 1) := by decide +kernel
theorem dL_act_347 : decode cL_act 347 = .ok (.goto 4, 3) := by decide +kernel
theorem dL_act_350 : decode cL_act 350 = .ok (.iconst 0, 1) := by decide +kernel
theorem dL_act_351 : decode cL_act 351 = .ok (.ireturn, 1) := by decide +kernel
theorem dL_act_352 : decode cL_act 352 = .ok (.aload_n 0, 1) := by decide +kernel
theorem dL_act_353 : decode cL_act 353 = .ok (.iload_n 2, 1) := by decide +kernel
theorem dL_act_354 : decode cL_act 354 = .ok (.iload_n 3, 1) := by decide +kernel
theorem dL_act_355 : decode cL_act 355 = .ok (.invokevirtual 84, 3) := by decide +kernel
theorem dL_act_358 : decode cL_act 358 = .ok (.aload_n 0, 1) := by decide +kernel
theorem dL_act_359 : decode cL_act 359 = .ok (.iload_n 3, 1) := by decide +kernel
theorem dL_act_360 : decode cL_act 360 = .ok (.iconst 5, 1) := by decide +kernel
theorem dL_act_361 : decode cL_act 361 = .ok (.invokevirtual 87, 3) := by decide +kernel
theorem dL_act_364 : decode cL_act 364 = .ok (.if_icmp .ne 7, 3) := by decide +kernel
theorem dL_act_367 : decode cL_act 367 = .ok (.iconst 1, 1) := by decide +kernel
theorem dL_act_368 : decode cL_act 368 = .ok (.goto 4, 3) := by decide +kernel
theorem dL_act_371 : decode cL_act 371 = .ok (.iconst 0, 1) := by decide +kernel
theorem dL_act_372 : decode cL_act 372 = .ok (.ireturn, 1) := by decide +kernel
theorem dL_act_373 : decode cL_act 373 = .ok (.aload_n 0, 1) := by decide +kernel
theorem dL_act_374 : decode cL_act 374 = .ok (.iconst 1, 1) := by decide +kernel
theorem dL_act_375 : decode cL_act 375 = .ok (.iload_n 1, 1) := by decide +kernel
theorem dL_act_376 : decode cL_act 376 = .ok (.bipush 6, 2) := by decide +kernel
theorem dL_act_378 : decode cL_act 378 = .ok (.ishr, 1) := by decide +kernel
theorem dL_act_379 : decode cL_act 379 = .ok (.bipush 20, 2) := by decide +kernel
theorem dL_act_381 : decode cL_act 381 = .ok (.invokestatic 22, 3) := by decide +kernel
theorem dL_act_384 : decode cL_act 384 = .ok (.iadd, 1) := by decide +kernel
theorem dL_act_385 : decode cL_act 385 = .ok (.invokevirtual 90, 3) := by decide +kernel
theorem dL_act_388 : decode cL_act 388 = .ok (.istore 7, 2) := by decide +kernel
theorem dL_act_390 : decode cL_act 390 = .ok (.aload_n 0, 1) := by decide +kernel
theorem dL_act_391 : decode cL_act 391 = .ok (.bipush 8, 2) := by decide +kernel
theorem dL_act_393 : decode cL_act 393 = .ok (.invokevirtual 34, 3) := by decide +kernel
theorem dL_act_396 : decode cL_act 396 = .ok (.istore 8, 2) := by decide +kernel
theorem dL_act_398 : decode cL_act 398 = .ok (.aload_n 0, 1) := by decide +kernel
theorem dL_act_399 : decode cL_act 399 = .ok (.iconst 1, 1) := by decide +kernel
theorem dL_act_400 : decode cL_act 400 = .ok (.iload_n 1, 1) := by decide +kernel
theorem dL_act_401 : decode cL_act 401 = .ok (.bipush 6, 2) := by decide +kernel
theorem dL_act_403 : decode cL_act 403 = .ok (.ishr, 1) := by decide +kernel
theorem dL_act_404 : decode cL_act 404 = .ok (.bipush 20, 2) := by decide +kernel
theorem dL_act_406 : decode cL_act 406 = .ok (.invokestatic 22, 3) := by decide +kernel
theorem dL_act_409 : decode cL_act 409 = .ok (.iadd, 1) := by decide +kernel
theorem dL_act_410 : decode cL_act 410 = .ok (.invokevirtual 93, 3) := by decide +kernel
theorem dL_act_413 : decode cL_act 413 = .ok (.iload 7, 2) := by decide +kernel
theorem dL_act_415 : decode cL_act 415 = .ok (.if_icmp .ne 21, 3) := by decide +kernel
theorem dL_act_418 : decode cL_act 418 = .ok (.aload_n 0, 1) := by decide +kernel
theorem dL_act_419 : decode cL_act 419 = .ok (.bipush 8, 2) := by decide +kernel
theorem dL_act_421 : decode cL_act 421 = .ok (.invokevirtual 34, 3) := by decide +kernel
theorem dL_act_424 : decode cL_act 424 = .ok (.iload 8, 2) := by decide +kernel
theorem dL_act_426 : decode cL_act 426 = .ok (.iload 7, 2) := by decide +kernel
theorem dL_act_428 : decode cL_act 428 = .ok (.iadd, 1) := by decide +kernel
theorem dL_act_429 : decode cL_act 429 = .ok (.if_icmp .ne 7, 3) := by decide +kernel
theorem dL_act_432 : decode cL_act 432 = .ok (.iconst 1, 1) := by decide +kernel
theorem dL_act_433 : decode cL_act 433 = .ok (.goto 4, 3) := by decide +kernel
theorem dL_act_436 : decode cL_act 436 = .ok (.iconst 0, 1) := by decide +kernel
theorem dL_act_437 : decode cL_act 437 = .ok (.ireturn, 1) := by decide +kernel
theorem dL_act_438 : decode cL_act 438 = .ok (.aload_n 0, 1) := by decide +kernel
theorem dL_act_439 : decode cL_act 439 = .ok (.iload 4, 2) := by decide +kernel
theorem dL_act_441 : decode cL_act 441 = .ok (.invokevirtual 96, 3) := by decide +kernel
theorem dL_act_444 : decode cL_act 444 = .ok (.ifCond .lt 19, 3) := by decide +kernel
theorem dL_act_447 : decode cL_act 447 = .ok (.aload_n 0, 1) := by decide +kernel
theorem dL_act_448 : decode cL_act 448 = .ok (.iload 4, 2) := by decide +kernel
theorem dL_act_450 : decode cL_act 450 = .ok (.iconst 1, 1) := by decide +kernel
theorem dL_act_451 : decode cL_act 451 = .ok (.invokevirtual 66, 3) := by decide +kernel
theorem dL_act_454 : decode cL_act 454 = .ok (.iconst 2, 1) := by decide +kernel
theorem dL_act_455 : decode cL_act 455 = .ok (.irem, 1) := by decide +kernel
theorem dL_act_456 : decode cL_act 456 = .ok (.ifCond .ne 7, 3) := by decide +kernel
theorem dL_act_459 : decode cL_act 459 = .ok (.iconst 1, 1) := by decide +kernel
theorem dL_act_460 : decode cL_act 460 = .ok (.goto 4, 3) := by decide +kernel
theorem dL_act_463 : decode cL_act 463 = .ok (.iconst 0, 1) := by decide +kernel
theorem dL_act_464 : decode cL_act 464 = .ok (.ireturn, 1) := by decide +kernel
theorem dL_act_465 : decode cL_act 465 = .ok (.aload_n 0, 1) := by decide +kernel
theorem dL_act_466 : decode cL_act 466 = .ok (.iload_n 2, 1) := by decide +kernel
theorem dL_act_467 : decode cL_act 467 = .ok (.iconst 1, 1) := by decide +kernel
theorem dL_act_468 : decode cL_act 468 = .ok (.iload_n 1, 1) := by decide +kernel
theorem dL_act_469 : decode cL_act 469 = .ok (.bipush 6, 2) := by decide +kernel
theorem dL_act_471 : decode cL_act 471 = .ok (.ishr, 1) := by decide +kernel
theorem dL_act_472 : decode cL_act 472 = .ok (.bipush 30, 2) := by decide +kernel
theorem dL_act_474 : decode cL_act 474 = .ok (.invokestatic 22, 3) := by decide +kernel
theorem dL_act_477 : decode cL_act 477 = .ok (.iadd, 1) := by decide +kernel
theorem dL_act_478 : decode cL_act 478 = .ok (.invokevirtual 99, 3) := by decide +kernel
theorem dL_act_481 : decode cL_act 481 = .ok (.aload_n 0, 1) := by decide +kernel
theorem dL_act_482 : decode cL_act 482 = .ok (.iload_n 2, 1) := by decide +kernel
theorem dL_act_483 : decode cL_act 483 = .ok (.iconst 2, 1) := by decide +kernel
theorem dL_act_484 : decode cL_act 484 = .ok (.invokevirtual 102, 3) := by decide +kernel
theorem dL_act_487 : decode cL_act 487 = .ok (.if_icmp .ne 7, 3) := by decide +kernel
theorem dL_act_490 : decode cL_act 490 = .ok (.iconst 1, 1) := by decide +kernel
theorem dL_act_491 : decode cL_act 491 = .ok (.goto 4, 3) := by decide +kernel
theorem dL_act_494 : decode cL_act 494 = .ok (.iconst 0, 1) := by decide +kernel
theorem dL_act_495 : decode cL_act 495 = .ok (.ireturn, 1) := by decide +kernel
theorem dL_act_496 : decode cL_act 496 = .ok (.iload_n 1, 1) := by decide +kernel
theorem dL_act_497 : decode cL_act 497 = .ok (.bipush 7, 2) := by decide +kernel
theorem dL_act_499 : decode cL_act 499 = .ok (.ishr, 1) := by decide +kernel
theorem dL_act_500 : decode cL_act 500 = .ok (.iconst 2, 1) := by decide +kernel
theorem dL_act_501 : decode cL_act 501 = .ok (.invokestatic 22, 3) := by decide +kernel
theorem dL_act_504 : decode cL_act 504 = .ok (.ifCond .ne 36, 3) := by decide +kernel
theorem dL_act_507 : decode cL_act 507 = .ok (.aload_n 0, 1) := by decide +kernel
theorem dL_act_508 : decode cL_act 508 = .ok (.iconst (-1), 1) := by decide +kernel
theorem dL_act_509 : decode cL_act 509 = .ok (.iconst 1, 1) := by decide +kernel
theorem dL_act_510 : decode cL_act 510 = .ok (.iload_n 1, 1) := by decide +kernel
theorem dL_act_511 : decode cL_act 511 = .ok (.iconst 4, 1) := by decide +kernel
theorem dL_act_512 : decode cL_act 512 = .ok (.ishr, 1) := by decide +kernel
theorem dL_act_513 : decode cL_act 513 = .ok (.bipush 100, 2) := by decide +kernel
theorem dL_act_515 : decode cL_act 515 = .ok (.invokestatic 22, 3) := by decide +kernel
theorem dL_act_518 : decode cL_act 518 = .ok (.iadd, 1) := by decide +kernel
theorem dL_act_519 : decode cL_act 519 = .ok (.bipush 50, 2) := by decide +kernel
theorem dL_act_521 : decode cL_act 521 = .ok (.invokevirtual 30, 3) := by decide +kernel
theorem dL_act_524 : decode cL_act 524 = .ok (.aload_n 0, 1) := by decide +kernel
theorem dL_act_525 : decode cL_act 525 = .ok (.iconst 2, 1) := by decide +kernel
theorem dL_act_526 : decode cL_act 526 = .ok (.invokevirtual 34, 3) := by decide +kernel
theorem dL_act_529 : decode cL_act 529 = .ok (.iconst 1, 1) := by decide +kernel
theorem dL_act_530 : decode cL_act 530 = .ok (.isub, 1) := by decide +kernel
theorem dL_act_531 : decode cL_act 531 = .ok (.if_icmp .lt 7, 3) := by decide +kernel
theorem dL_act_534 : decode cL_act 534 = .ok (.iconst 1, 1) := by decide +kernel
theorem dL_act_535 : decode cL_act 535 = .ok (.goto 4, 3) := by decide +kernel
theorem dL_act_538 : decode cL_act 538 = .ok (.iconst 0, 1) := by decide +kernel
theorem dL_act_539 : decode cL_act 539 = .ok (.ireturn, 1) := by decide +kernel
theorem dL_act_540 : decode cL_act 540 = .ok (.aload_n 0, 1) := by decide +kernel
theorem dL_act_541 : decode cL_act 541 = .ok (.iload_n 3, 1) := by decide +kernel
theorem dL_act_542 : decode cL_act 542 = .ok (.iload_n 1, 1) := by decide +kernel
theorem dL_act_543 : decode cL_act 543 = .ok (.bipush 6, 2) := by decide +kernel
theorem dL_act_545 : decode cL_act 545 = .ok (.ishr, 1) := by decide +kernel
theorem dL_act_546 : decode cL_act 546 = .ok (.iconst 4, 1) := by decide +kernel
theorem dL_act_547 : decode cL_act 547 = .ok (.invokestatic 22, 3) := by decide +kernel
theorem dL_act_550 : decode cL_act 550 = .ok (.invokevirtual 105, 3) := by decide +kernel
theorem dL_act_553 : decode cL_act 553 = .ok (.aload_n 0, 1) := by decide +kernel
theorem dL_act_554 : decode cL_act 554 = .ok (.iload_n 3, 1) := by decide +kernel
theorem dL_act_555 : decode cL_act 555 = .ok (.iconst 4, 1) := by decide +kernel
theorem dL_act_556 : decode cL_act 556 = .ok (.invokevirtual 87, 3) := by decide +kernel
theorem dL_act_559 : decode cL_act 559 = .ok (.if_icmp .ne 24, 3) := by decide +kernel
theorem dL_act_562 : decode cL_act 562 = .ok (.aload_n 0, 1) := by decide +kernel
theorem dL_act_563 : decode cL_act 563 = .ok (.iload_n 3, 1) := by decide +kernel
theorem dL_act_564 : decode cL_act 564 = .ok (.iconst 3, 1) := by decide +kernel
theorem dL_act_565 : decode cL_act 565 = .ok (.invokevirtual 87, 3) := by decide +kernel
theorem dL_act_568 : decode cL_act 568 = .ok (.iload_n 1, 1) := by decide +kernel
theorem dL_act_569 : decode cL_act 569 = .ok (.bipush 6, 2) := by decide +kernel
theorem dL_act_571 : decode cL_act 571 = .ok (.ishr, 1) := by decide +kernel
theorem dL_act_572 : decode cL_act 572 = .ok (.iconst 4, 1) := by decide +kernel
theorem dL_act_573 : decode cL_act 573 = .ok (.invokestatic 22, 3) := by decide +kernel
theorem dL_act_576 : decode cL_act 576 = .ok (.if_icmp .ne 7, 3) := by decide +kernel
theorem dL_act_579 : decode cL_act 579 = .ok (.iconst 1, 1) := by decide +kernel
theorem dL_act_580 : decode cL_act 580 = .ok (.goto 4, 3) := by decide +kernel
theorem dL_act_583 : decode cL_act 583 = .ok (.iconst 0, 1) := by decide +kernel
theorem dL_act_584 : decode cL_act 584 = .ok (.ireturn, 1) := by decide +kernel
theorem dL_act_585 : decode cL_act 585 = .ok (.astore 5, 2) := by decide +kernel
theorem dL_act_587 : decode cL_act 587 = .ok (.aload_n 0, 1) := by decide +kernel
theorem dL_act_588 : decode cL_act 588 = .ok (.iconst 2, 1) := by decide +kernel
theorem dL_act_589 : decode cL_act 589 = .ok (.invokevirtual 34, 3) := by decide +kernel
theorem dL_act_592 : decode cL_act 592 = .ok (.ifCond .le 7, 3) := by decide +kernel
theorem dL_act_595 : decode cL_act 595 = .ok (.iconst 1, 1) := by decide +kernel
theorem dL_act_596 : decode cL_act 596 = .ok (.goto 4, 3) := by decide +kernel
theorem dL_act_599 : decode cL_act 599 = .ok (.iconst 0, 1) := by decide +kernel
theorem dL_act_600 : decode cL_act 600 = .ok (.ireturn, 1) := by decide +kernel
theorem dL_act_601 : decode cL_act 601 = .ok (.astore 5, 2) := by decide +kernel
theorem dL_act_603 : decode cL_act 603 = .ok (.iload_n 1, 1) := by decide +kernel
theorem dL_act_604 : decode cL_act 604 = .ok (.bipush 14, 2) := by decide +kernel
theorem dL_act_606 : decode cL_act 606 = .ok (.invokestatic 22, 3) := by decide +kernel
theorem dL_act_609 : decode cL_act 609 = .ok (.bipush 12, 2) := by decide +kernel
theorem dL_act_611 : decode cL_act 611 = .ok (.if_icmp .ne 7, 3) := by decide +kernel
theorem dL_act_614 : decode cL_act 614 = .ok (.iconst 1, 1) := by decide +kernel
theorem dL_act_615 : decode cL_act 615 = .ok (.goto 4, 3) := by decide +kernel
theorem dL_act_618 : decode cL_act 618 = .ok (.iconst 0, 1) := by decide +kernel
theorem dL_act_619 : decode cL_act 619 = .ok (.ireturn, 1) := by decide +kernel
theorem dL_act_620 : decode cL_act 620 = .ok (.astore 5, 2) := by decide +kernel
theorem dL_act_622 : decode cL_act 622 = .ok (.iload_n 1, 1) := by decide +kernel
theorem dL_act_623 : decode cL_act 623 = .ok (.bipush 14, 2) := by decide +kernel
theorem dL_act_625 : decode cL_act 625 = .ok (.invokestatic 22, 3) := by decide +kernel
theorem dL_act_628 : decode cL_act 628 = .ok (.bipush 10, 2) := by decide +kernel
theorem dL_act_630 : decode cL_act 630 = .ok (.if_icmp .eq 18, 3) := by decide +kernel
theorem dL_act_633 : decode cL_act 633 = .ok (.iload_n 1, 1) := by decide +kernel
theorem dL_act_634 : decode cL_act 634 = .ok (.bipush 14, 2) := by decide +kernel
theorem dL_act_636 : decode cL_act 636 = .ok (.invokestatic 22, 3) := by decide +kernel
theorem dL_act_639 : decode cL_act 639 = .ok (.bipush 12, 2) := by decide +kernel
theorem dL_act_641 : decode cL_act 641 = .ok (.if_icmp .eq 7, 3) := by decide +kernel
theorem dL_act_644 : decode cL_act 644 = .ok (.iconst 1, 1) := by decide +kernel
theorem dL_act_645 : decode cL_act 645 = .ok (.goto 4, 3) := by decide +kernel
theorem dL_act_648 : decode cL_act 648 = .ok (.iconst 0, 1) := by decide +kernel
theorem dL_act_649 : decode cL_act 649 = .ok (.ireturn, 1) := by decide +kernel
theorem dL_areCopiesRight_0 : decode cL_areCopiesRight 0 = .ok (.iconst 4, 1) := by decide +kernel
theorem dL_areCopiesRight_1 : decode cL_areCopiesRight 1 = .ok (.newarray .int, 2) := by decide +kernel
theorem dL_areCopiesRight_3 : decode cL_areCopiesRight 3 = .ok (.astore_n 1, 1) := by decide +kernel
theorem dL_areCopiesRight_4 : decode cL_areCopiesRight 4 = .ok (.iconst 0, 1) := by decide +kernel
theorem dL_areCopiesRight_5 : decode cL_areCopiesRight 5 = .ok (.istore_n 2, 1) := by decide +kernel
theorem dL_areCopiesRight_6 : decode cL_areCopiesRight 6 = .ok (.iload_n 2, 1) := by decide +kernel
theorem dL_areCopiesRight_7 : decode cL_areCopiesRight 7 = .ok (.aload_n 0, 1) := by decide +kernel
theorem dL_areCopiesRight_8 : decode cL_areCopiesRight 8 = .ok (.iconst 3, 1) := by decide +kernel
theorem dL_areCopiesRight_9 : decode cL_areCopiesRight 9 = .ok (.invokevirtual 34, 3) := by decide +kernel
theorem dL_areCopiesRight_12 : decode cL_areCopiesRight 12 = .ok (.if_icmp .ge 209, 3) := by decide +kernel
theorem dL_areCopiesRight_15 : decode cL_areCopiesRight 15 = .ok (.aload_n 0, 1) := by decide +kernel
theorem dL_areCopiesRight_16 : decode cL_areCopiesRight 16 = .ok (.iload_n 2, 1) := by decide +kernel
theorem dL_areCopiesRight_17 : decode cL_areCopiesRight 17 = .ok (.iconst 1, 1) := by decide +kernel
theorem dL_areCopiesRight_18 : decode cL_areCopiesRight 18 = .ok (.invokevirtual 66, 3) := by decide +kernel
theorem dL_areCopiesRight_21 : decode cL_areCopiesRight 21 = .ok (.istore_n 3, 1) := by decide +kernel
theorem dL_areCopiesRight_22 : decode cL_areCopiesRight 22 = .ok (.iload_n 3, 1) := by decide +kernel
theorem dL_areCopiesRight_23 : decode cL_areCopiesRight 23 = .ok (.ifCond .lt 8, 3) := by decide +kernel
theorem dL_areCopiesRight_26 : decode cL_areCopiesRight 26 = .ok (.iload_n 3, 1) := by decide +kernel
theorem dL_areCopiesRight_27 : decode cL_areCopiesRight 27 = .ok (.iconst 3, 1) := by decide +kernel
theorem dL_areCopiesRight_28 : decode cL_areCopiesRight 28 = .ok (.if_icmp .le 5, 3) := by decide +kernel
theorem dL_areCopiesRight_31 : decode cL_areCopiesRight 31 = .ok (.iconst 0, 1) := by decide +kernel
theorem dL_areCopiesRight_32 : decode cL_areCopiesRight 32 = .ok (.ireturn, 1) := by decide +kernel
theorem dL_areCopiesRight_33 : decode cL_areCopiesRight 33 = .ok (.aload_n 1, 1) := by decide +kernel
theorem dL_areCopiesRight_34 : decode cL_areCopiesRight 34 = .ok (.iload_n 3, 1) := by decide +kernel
theorem dL_areCopiesRight_35 : decode cL_areCopiesRight 35 = .ok (.dup2, 1) := by decide +kernel
theorem dL_areCopiesRight_36 : decode cL_areCopiesRight 36 = .ok (.iaload, 1) := by decide +kernel
theorem dL_areCopiesRight_37 : decode cL_areCopiesRight 37 = .ok (.iconst 1, 1) := by decide +kernel
theorem dL_areCopiesRight_38 : decode cL_areCopiesRight 38 = .ok (.iadd, 1) := by decide +kernel
theorem dL_areCopiesRight_39 : decode cL_areCopiesRight 39 = .ok (.iastore, 1) := by decide +kernel
theorem dL_areCopiesRight_40 : decode cL_areCopiesRight 40 = .ok (.aload_n 0, 1) := by decide +kernel
theorem dL_areCopiesRight_41 : decode cL_areCopiesRight 41 = .ok (.iload_n 2, 1) := by decide +kernel
theorem dL_areCopiesRight_42 : decode cL_areCopiesRight 42 = .ok (.iconst 2, 1) := by decide +kernel
theorem dL_areCopiesRight_43 : decode cL_areCopiesRight 43 = .ok (.invokevirtual 66, 3) := by decide +kernel
theorem dL_areCopiesRight_46 : decode cL_areCopiesRight 46 = .ok (.istore 4, 2) := by decide +kernel
theorem dL_areCopiesRight_48 : decode cL_areCopiesRight 48 = .ok (.aload_n 0, 1) := by decide +kernel
theorem dL_areCopiesRight_49 : decode cL_areCopiesRight 49 = .ok (.iload_n 2, 1) := by decide +kernel
theorem dL_areCopiesRight_50 : decode cL_areCopiesRight 50 = .ok (.iconst 3, 1) := by decide +kernel
theorem dL_areCopiesRight_51 : decode cL_areCopiesRight 51 = .ok (.invokevirtual 66, 3) := by decide +kernel
theorem dL_areCopiesRight_54 : decode cL_areCopiesRight 54 = .ok (.istore 5, 2) := by decide +kernel
theorem dL_areCopiesRight_56 : decode cL_areCopiesRight 56 = .ok (.aload_n 0, 1) := by decide +kernel
theorem dL_areCopiesRight_57 : decode cL_areCopiesRight 57 = .ok (.iload_n 2, 1) := by decide +kernel
theorem dL_areCopiesRight_58 : decode cL_areCopiesRight 58 = .ok (.iconst 4, 1) := by decide +kernel
theorem dL_areCopiesRight_59 : decode cL_areCopiesRight 59 = .ok (.invokevirtual 66, 3) := by decide +kernel
theorem dL_areCopiesRight_62 : decode cL_areCopiesRight 62 = .ok (.istore 6, 2) := by decide +kernel
theorem dL_areCopiesRight_64 : decode cL_areCopiesRight 64 = .ok (.iload_n 3, 1) := by decide +kernel
theorem dL_areCopiesRight_65 : decode cL_areCopiesRight 65 = .ok (.ifCond .ne 7, 3) := by decide +kernel
theorem dL_areCopiesRight_68 : decode cL_areCopiesRight 68 = .ok (.iconst 1, 1) := by decide +kernel
theorem dL_areCopiesRight_69 : decode cL_areCopiesRight 69 = .ok (.goto 4, 3) := by decide +kernel
theorem dL_areCopiesRight_72 : decode cL_areCopiesRight 72 = .ok (.iconst 0, 1) := by decide +kernel
theorem dL_areCopiesRight_73 : decode cL_areCopiesRight 73 = .ok (.iload 4, 2) := by decide +kernel
theorem dL_areCopiesRight_75 : decode cL_areCopiesRight 75 = .ok (.iconst (-1), 1) := by decide +kernel
theorem dL_areCopiesRight_76 : decode cL_areCopiesRight 76 = .ok (.if_icmp .ne 7, 3) := by decide +kernel
theorem dL_areCopiesRight_79 : decode cL_areCopiesRight 79 = .ok (.iconst 1, 1) := by decide +kernel
theorem dL_areCopiesRight_80 : decode cL_areCopiesRight 80 = .ok (.goto 4, 3) := by decide +kernel
theorem dL_areCopiesRight_83 : decode cL_areCopiesRight 83 = .ok (.iconst 0, 1) := by decide +kernel
theorem dL_areCopiesRight_84 : decode cL_areCopiesRight 84 = .ok (.if_icmp .ne 107, 3) := by decide +kernel
theorem dL_areCopiesRight_87 : decode cL_areCopiesRight 87 = .ok (.iload_n 3, 1) := by decide +kernel
theorem dL_areCopiesRight_88 : decode cL_areCopiesRight 88 = .ok (.ifCond .eq 8, 3) := by decide +kernel
theorem dL_areCopiesRight_91 : decode cL_areCopiesRight 91 = .ok (.iload_n 3, 1) := by decide +kernel
theorem dL_areCopiesRight_92 : decode cL_areCopiesRight 92 = .ok (.iconst 3, 1) := by decide +kernel
theorem dL_areCopiesRight_93 : decode cL_areCopiesRight 93 = .ok (.if_icmp .ne 7, 3) := by decide +kernel
theorem dL_areCopiesRight_96 : decode cL_areCopiesRight 96 = .ok (.iconst 1, 1) := by decide +kernel
theorem dL_areCopiesRight_97 : decode cL_areCopiesRight 97 = .ok (.goto 4, 3) := by decide +kernel
theorem dL_areCopiesRight_100 : decode cL_areCopiesRight 100 = .ok (.iconst 0, 1) := by decide +kernel
theorem dL_areCopiesRight_101 : decode cL_areCopiesRight 101 = .ok (.iload 5, 2) := by decide +kernel
theorem dL_areCopiesRight_103 : decode cL_areCopiesRight 103 = .ok (.iconst (-1), 1) := by decide +kernel
theorem dL_areCopiesRight_104 : decode cL_areCopiesRight 104 = .ok (.if_icmp .ne 7, 3) := by decide +kernel
theorem dL_areCopiesRight_107 : decode cL_areCopiesRight 107 = .ok (.iconst 1, 1) := by decide +kernel
theorem dL_areCopiesRight_108 : decode cL_areCopiesRight 108 = .ok (.goto 4, 3) := by decide +kernel
theorem dL_areCopiesRight_111 : decode cL_areCopiesRight 111 = .ok (.iconst 0, 1) := by decide +kernel
theorem dL_areCopiesRight_112 : decode cL_areCopiesRight 112 = .ok (.if_icmp .ne 79, 3) := by decide +kernel
theorem dL_areCopiesRight_115 : decode cL_areCopiesRight 115 = .ok (.iload_n 3, 1) := by decide +kernel
theorem dL_areCopiesRight_116 : decode cL_areCopiesRight 116 = .ok (.iconst 1, 1) := by decide +kernel
theorem dL_areCopiesRight_117 : decode cL_areCopiesRight 117 = .ok (.if_icmp .eq 17, 3) := by decide +kernel
theorem dL_areCopiesRight_120 : decode cL_areCopiesRight 120 = .ok (.iload 6, 2) := by decide +kernel
theorem dL_areCopiesRight_122 : decode cL_areCopiesRight 122 = .ok (.ifCond .ne 69, 3) := by decide +kernel
theorem dL_areCopiesRight_125 : decode cL_areCopiesRight 125 = .ok (.aload_n 0, 1) := by decide +kernel
theorem dL_areCopiesRight_126 : decode cL_areCopiesRight 126 = .ok (.iload_n 2, 1) := by decide +kernel
theorem dL_areCopiesRight_127 : decode cL_areCopiesRight 127 = .ok (.iconst 5, 1) := by decide +kernel
theorem dL_areCopiesRight_128 : decode cL_areCopiesRight 128 = .ok (.invokevirtual 66, 3) := by decide +kernel
theorem dL_areCopiesRight_131 : decode cL_areCopiesRight 131 = .ok (.ifCond .ne 60, 3) := by decide +kernel
theorem dL_areCopiesRight_134 : decode cL_areCopiesRight 134 = .ok (.iload_n 3, 1) := by decide +kernel
theorem dL_areCopiesRight_135 : decode cL_areCopiesRight 135 = .ok (.iconst 2, 1) := by decide +kernel
theorem dL_areCopiesRight_136 : decode cL_areCopiesRight 136 = .ok (.if_icmp .ne 26, 3) := by decide +kernel
theorem dL_areCopiesRight_139 : decode cL_areCopiesRight 139 = .ok (.iload 5, 2) := by decide +kernel
theorem dL_areCopiesRight_141 : decode cL_areCopiesRight 141 = .ok (.aload_n 0, 1) := by decide +kernel
theorem dL_areCopiesRight_142 : decode cL_areCopiesRight 142 = .ok (.iconst 0, 1) := by decide +kernel
theorem dL_areCopiesRight_143 : decode cL_areCopiesRight 143 = .ok (.invokevirtual 34, 3) := by decide +kernel
theorem dL_areCopiesRight_146 : decode cL_areCopiesRight 146 = .ok (.if_icmp .lt 45, 3) := by decide +kernel
theorem dL_areCopiesRight_149 : decode cL_areCopiesRight 149 = .ok (.iload 5, 2) := by decide +kernel
theorem dL_areCopiesRight_151 : decode cL_areCopiesRight 151 = .ok (.aload_n 0, 1) := by decide +kernel
theorem dL_areCopiesRight_152 : decode cL_areCopiesRight 152 = .ok (.iconst 0, 1) := by decide +kernel
theorem dL_areCopiesRight_153 : decode cL_areCopiesRight 153 = .ok (.invokevirtual 34, 3) := by decide +kernel
theorem dL_areCopiesRight_156 : decode cL_areCopiesRight 156 = .ok (.bipush 6, 2) := by decide +kernel
theorem dL_areCopiesRight_158 : decode cL_areCopiesRight 158 = .ok (.iadd, 1) := by decide +kernel
theorem dL_areCopiesRight_159 : decode cL_areCopiesRight 159 = .ok (.if_icmp .gt 32, 3) := by decide +kernel
theorem dL_areCopiesRight_162 : decode cL_areCopiesRight 162 = .ok (.iload_n 3, 1) := by decide +kernel
theorem dL_areCopiesRight_163 : decode cL_areCopiesRight 163 = .ok (.iconst 1, 1) := by decide +kernel
theorem dL_areCopiesRight_164 : decode cL_areCopiesRight 164 = .ok (.if_icmp .ne 20, 3) := by decide +kernel
theorem dL_areCopiesRight_167 : decode cL_areCopiesRight 167 = .ok (.iload 6, 2) := by decide +kernel
theorem dL_areCopiesRight_169 : decode cL_areCopiesRight 169 = .ok (.iconst 0, 1) := by decide +kernel
theorem dL_areCopiesRight_170 : decode cL_areCopiesRight 170 = .ok (.aload_n 0, 1) := by decide +kernel
theorem dL_areCopiesRight_171 : decode cL_areCopiesRight 171 = .ok (.iconst 0, 1) := by decide +kernel
theorem dL_areCopiesRight_172 : decode cL_areCopiesRight 172 = .ok (.invokevirtual 34, 3) := by decide +kernel
theorem dL_areCopiesRight_175 : decode cL_areCopiesRight 175 = .ok (.iload 5, 2) := by decide +kernel
theorem dL_areCopiesRight_177 : decode cL_areCopiesRight 177 = .ok (.isub, 1) := by decide +kernel
theorem dL_areCopiesRight_178 : decode cL_areCopiesRight 178 = .ok (.invokestatic 55, 3) := by decide +kernel
theorem dL_areCopiesRight_181 : decode cL_areCopiesRight 181 = .ok (.if_icmp .ne 10, 3) := by decide +kernel
theorem dL_areCopiesRight_184 : decode cL_areCopiesRight 184 = .ok (.iload 6, 2) := by decide +kernel
theorem dL_areCopiesRight_186 : decode cL_areCopiesRight 186 = .ok (.bipush 29, 2) := by decide +kernel
theorem dL_areCopiesRight_188 : decode cL_areCopiesRight 188 = .ok (.if_icmp .le 5, 3) := by decide +kernel
theorem dL_areCopiesRight_191 : decode cL_areCopiesRight 191 = .ok (.iconst 0, 1) := by decide +kernel
theorem dL_areCopiesRight_192 : decode cL_areCopiesRight 192 = .ok (.ireturn, 1) := by decide +kernel
theorem dL_areCopiesRight_193 : decode cL_areCopiesRight 193 = .ok (.aload_n 0, 1) := by decide +kernel
theorem dL_areCopiesRight_194 : decode cL_areCopiesRight 194 = .ok (.aload_n 0, 1) := by decide +kernel
theorem dL_areCopiesRight_195 : decode cL_areCopiesRight 195 = .ok (.iload_n 2, 1) := by decide +kernel
theorem dL_areCopiesRight_196 : decode cL_areCopiesRight 196 = .ok (.iconst 0, 1) := by decide +kernel
theorem dL_areCopiesRight_197 : decode cL_areCopiesRight 197 = .ok (.invokevirtual 66, 3) := by decide +kernel
theorem dL_areCopiesRight_200 : decode cL_areCopiesRight 200 = .ok (.iconst 3, 1) := by decide +kernel
theorem dL_areCopiesRight_201 : decode cL_areCopiesRight 201 = .ok (.invokevirtual 87, 3) := by decide +kernel
theorem dL_areCopiesRight_204 : decode cL_areCopiesRight 204 = .ok (.aload_n 0, 1) := by decide +kernel
theorem dL_areCopiesRight_205 : decode cL_areCopiesRight 205 = .ok (.iload_n 2, 1) := by decide +kernel
theorem dL_areCopiesRight_206 : decode cL_areCopiesRight 206 = .ok (.iconst 0, 1) := by decide +kernel
theorem dL_areCopiesRight_207 : decode cL_areCopiesRight 207 = .ok (.invokevirtual 66, 3) := by decide +kernel
theorem dL_areCopiesRight_210 : decode cL_areCopiesRight 210 = .ok (.if_icmp .eq 5, 3) := by decide +kernel
theorem dL_areCopiesRight_213 : decode cL_areCopiesRight 213 = .ok (.iconst 0, 1) := by decide +kernel
theorem dL_areCopiesRight_214 : decode cL_areCopiesRight 214 = .ok (.ireturn, 1) := by decide +kernel
theorem dL_areCopiesRight_215 : decode cL_areCopiesRight 215 = .ok (.iinc 2 1, 3) := by decide +kernel
theorem dL_areCopiesRight_218 : decode cL_areCopiesRight 218 = .ok (.goto (-212), 3) := by decide +kernel
theorem dL_areCopiesRight_221 : decode cL_areCopiesRight 221 = .ok (.iconst 0, 1) := by decide +kernel
theorem dL_areCopiesRight_222 : decode cL_areCopiesRight 222 = .ok (.istore_n 2, 1) := by decide +kernel
theorem dL_areCopiesRight_223 : decode cL_areCopiesRight 223 = .ok (.iload_n 2, 1) := by decide +kernel
theorem dL_areCopiesRight_224 : decode cL_areCopiesRight 224 = .ok (.iconst 4, 1) := by decide +kernel
theorem dL_areCopiesRight_225 : decode cL_areCopiesRight 225 = .ok (.if_icmp .ge 24, 3) := by decide +kernel
theorem dL_areCopiesRight_228 : decode cL_areCopiesRight 228 = .ok (.aload_n 0, 1) := by decide +kernel
theorem dL_areCopiesRight_229 : decode cL_areCopiesRight 229 = .ok (.iconst 5, 1) := by decide +kernel
theorem dL_areCopiesRight_230 : decode cL_areCopiesRight 230 = .ok (.iload_n 2, 1) := by decide +kernel
theorem dL_areCopiesRight_231 : decode cL_areCopiesRight 231 = .ok (.iadd, 1) := by decide +kernel
theorem dL_areCopiesRight_232 : decode cL_areCopiesRight 232 = .ok (.invokevirtual 34, 3) := by decide +kernel
theorem dL_areCopiesRight_235 : decode cL_areCopiesRight 235 = .ok (.aload_n 1, 1) := by decide +kernel
theorem dL_areCopiesRight_236 : decode cL_areCopiesRight 236 = .ok (.iload_n 2, 1) := by decide +kernel
theorem dL_areCopiesRight_237 : decode cL_areCopiesRight 237 = .ok (.iaload, 1) := by decide +kernel
theorem dL_areCopiesRight_238 : decode cL_areCopiesRight 238 = .ok (.if_icmp .eq 5, 3) := by decide +kernel
theorem dL_areCopiesRight_241 : decode cL_areCopiesRight 241 = .ok (.iconst 0, 1) := by decide +kernel
theorem dL_areCopiesRight_242 : decode cL_areCopiesRight 242 = .ok (.ireturn, 1) := by decide +kernel
theorem dL_areCopiesRight_243 : decode cL_areCopiesRight 243 = .ok (.iinc 2 1, 3) := by decide +kernel
theorem dL_areCopiesRight_246 : decode cL_areCopiesRight 246 = .ok (.goto (-23), 3) := by decide +kernel
theorem dL_areCopiesRight_249 : decode cL_areCopiesRight 249 = .ok (.iconst 1, 1) := by decide +kernel
theorem dL_areCopiesRight_250 : decode cL_areCopiesRight 250 = .ok (.ireturn, 1) := by decide +kernel
theorem dL_areRecordsRight_0 : decode cL_areRecordsRight 0 = .ok (.iconst 0, 1) := by decide +kernel
theorem dL_areRecordsRight_1 : decode cL_areRecordsRight 1 = .ok (.istore_n 1, 1) := by decide +kernel
theorem dL_areRecordsRight_2 : decode cL_areRecordsRight 2 = .ok (.iload_n 1, 1) := by decide +kernel
theorem dL_areRecordsRight_3 : decode cL_areRecordsRight 3 = .ok (.iconst 3, 1) := by decide +kernel
theorem dL_areRecordsRight_4 : decode cL_areRecordsRight 4 = .ok (.if_icmp .ge 268, 3) := by decide +kernel
theorem dL_areRecordsRight_7 : decode cL_areRecordsRight 7 = .ok (.aload_n 0, 1) := by decide +kernel
theorem dL_areRecordsRight_8 : decode cL_areRecordsRight 8 = .ok (.iload_n 1, 1) := by decide +kernel
theorem dL_areRecordsRight_9 : decode cL_areRecordsRight 9 = .ok (.iconst 3, 1) := by decide +kernel
theorem dL_areRecordsRight_10 : decode cL_areRecordsRight 10 = .ok (.invokevirtual 87, 3) := by decide +kernel
theorem dL_areRecordsRight_13 : decode cL_areRecordsRight 13 = .ok (.istore_n 2, 1) := by decide +kernel
theorem dL_areRecordsRight_14 : decode cL_areRecordsRight 14 = .ok (.iconst 0, 1) := by decide +kernel
theorem dL_areRecordsRight_15 : decode cL_areRecordsRight 15 = .ok (.istore_n 3, 1) := by decide +kernel
theorem dL_areRecordsRight_16 : decode cL_areRecordsRight 16 = .ok (.iconst 0, 1) := by decide +kernel
theorem dL_areRecordsRight_17 : decode cL_areRecordsRight 17 = .ok (.istore 4, 2) := by decide +kernel
theorem dL_areRecordsRight_19 : decode cL_areRecordsRight 19 = .ok (.iconst 0, 1) := by decide +kernel
theorem dL_areRecordsRight_20 : decode cL_areRecordsRight 20 = .ok (.istore 5, 2) := by decide +kernel
theorem dL_areRecordsRight_22 : decode cL_areRecordsRight 22 = .ok (.iload 5, 2) := by decide +kernel
theorem dL_areRecordsRight_24 : decode cL_areRecordsRight 24 = .ok (.aload_n 0, 1) := by decide +kernel
theorem dL_areRecordsRight_25 : decode cL_areRecordsRight 25 = .ok (.iconst 3, 1) := by decide +kernel
theorem dL_areRecordsRight_26 : decode cL_areRecordsRight 26 = .ok (.invokevirtual 34, 3) := by decide +kernel
theorem dL_areRecordsRight_29 : decode cL_areRecordsRight 29 = .ok (.if_icmp .ge 57, 3) := by decide +kernel
theorem dL_areRecordsRight_32 : decode cL_areRecordsRight 32 = .ok (.aload_n 0, 1) := by decide +kernel
theorem dL_areRecordsRight_33 : decode cL_areRecordsRight 33 = .ok (.iload 5, 2) := by decide +kernel
theorem dL_areRecordsRight_35 : decode cL_areRecordsRight 35 = .ok (.iconst 0, 1) := by decide +kernel
theorem dL_areRecordsRight_36 : decode cL_areRecordsRight 36 = .ok (.invokevirtual 66, 3) := by decide +kernel
theorem dL_areRecordsRight_39 : decode cL_areRecordsRight 39 = .ok (.iload_n 2, 1) := by decide +kernel
theorem dL_areRecordsRight_40 : decode cL_areRecordsRight 40 = .ok (.if_icmp .ne 40, 3) := by decide +kernel
theorem dL_areRecordsRight_43 : decode cL_areRecordsRight 43 = .ok (.aload_n 0, 1) := by decide +kernel
theorem dL_areRecordsRight_44 : decode cL_areRecordsRight 44 = .ok (.iload 5, 2) := by decide +kernel
theorem dL_areRecordsRight_46 : decode cL_areRecordsRight 46 = .ok (.iconst 1, 1) := by decide +kernel
theorem dL_areRecordsRight_47 : decode cL_areRecordsRight 47 = .ok (.invokevirtual 66, 3) := by decide +kernel
theorem dL_areRecordsRight_50 : decode cL_areRecordsRight 50 = .ok (.iconst 3, 1) := by decide +kernel
theorem dL_areRecordsRight_51 : decode cL_areRecordsRight 51 = .ok (.if_icmp .ne 6, 3) := by decide +kernel
theorem dL_areRecordsRight_54 : decode cL_areRecordsRight 54 = .ok (.goto 26, 3) := by decide +kernel
theorem dL_areRecordsRight_57 : decode cL_areRecordsRight 57 = .ok (.iinc 3 1, 3) := by decide +kernel
theorem dL_areRecordsRight_60 : decode cL_areRecordsRight 60 = .ok (.iload 4, 2) := by decide +kernel
theorem dL_areRecordsRight_62 : decode cL_areRecordsRight 62 = .ok (.aload_n 0, 1) := by decide +kernel
theorem dL_areRecordsRight_63 : decode cL_areRecordsRight 63 = .ok (.iload 5, 2) := by decide +kernel
theorem dL_areRecordsRight_65 : decode cL_areRecordsRight 65 = .ok (.iconst 1, 1) := by decide +kernel
theorem dL_areRecordsRight_66 : decode cL_areRecordsRight 66 = .ok (.invokevirtual 66, 3) := by decide +kernel
theorem dL_areRecordsRight_69 : decode cL_areRecordsRight 69 = .ok (.ifCond .ne 7, 3) := by decide +kernel
theorem dL_areRecordsRight_72 : decode cL_areRecordsRight 72 = .ok (.iconst 1, 1) := by decide +kernel
theorem dL_areRecordsRight_73 : decode cL_areRecordsRight 73 = .ok (.goto 4, 3) := by decide +kernel
theorem dL_areRecordsRight_76 : decode cL_areRecordsRight 76 = .ok (.iconst 0, 1) := by decide +kernel
theorem dL_areRecordsRight_77 : decode cL_areRecordsRight 77 = .ok (.ior, 1) := by decide +kernel
theorem dL_areRecordsRight_78 : decode cL_areRecordsRight 78 = .ok (.istore 4, 2) := by decide +kernel
theorem dL_areRecordsRight_80 : decode cL_areRecordsRight 80 = .ok (.iinc 5 1, 3) := by decide +kernel
theorem dL_areRecordsRight_83 : decode cL_areRecordsRight 83 = .ok (.goto (-61), 3) := by decide +kernel
theorem dL_areRecordsRight_86 : decode cL_areRecordsRight 86 = .ok (.aload_n 0, 1) := by decide +kernel
theorem dL_areRecordsRight_87 : decode cL_areRecordsRight 87 = .ok (.iload_n 1, 1) := by decide +kernel
theorem dL_areRecordsRight_88 : decode cL_areRecordsRight 88 = .ok (.iconst 4, 1) := by decide +kernel
theorem dL_areRecordsRight_89 : decode cL_areRecordsRight 89 = .ok (.invokevirtual 87, 3) := by decide +kernel
theorem dL_areRecordsRight_92 : decode cL_areRecordsRight 92 = .ok (.iload_n 3, 1) := by decide +kernel
theorem dL_areRecordsRight_93 : decode cL_areRecordsRight 93 = .ok (.if_icmp .ne 28, 3) := by decide +kernel
theorem dL_areRecordsRight_96 : decode cL_areRecordsRight 96 = .ok (.aload_n 0, 1) := by decide +kernel
theorem dL_areRecordsRight_97 : decode cL_areRecordsRight 97 = .ok (.iload_n 2, 1) := by decide +kernel
theorem dL_areRecordsRight_98 : decode cL_areRecordsRight 98 = .ok (.iconst 3, 1) := by decide +kernel
theorem dL_areRecordsRight_99 : decode cL_areRecordsRight 99 = .ok (.invokevirtual 87, 3) := by decide +kernel
theorem dL_areRecordsRight_102 : decode cL_areRecordsRight 102 = .ok (.iload_n 2, 1) := by decide +kernel
theorem dL_areRecordsRight_103 : decode cL_areRecordsRight 103 = .ok (.if_icmp .ne 18, 3) := by decide +kernel
theorem dL_areRecordsRight_106 : decode cL_areRecordsRight 106 = .ok (.aload_n 0, 1) := by decide +kernel
theorem dL_areRecordsRight_107 : decode cL_areRecordsRight 107 = .ok (.iload_n 2, 1) := by decide +kernel
theorem dL_areRecordsRight_108 : decode cL_areRecordsRight 108 = .ok (.iconst 5, 1) := by decide +kernel
theorem dL_areRecordsRight_109 : decode cL_areRecordsRight 109 = .ok (.invokevirtual 87, 3) := by decide +kernel
theorem dL_areRecordsRight_112 : decode cL_areRecordsRight 112 = .ok (.aload_n 0, 1) := by decide +kernel
theorem dL_areRecordsRight_113 : decode cL_areRecordsRight 113 = .ok (.iload_n 1, 1) := by decide +kernel
theorem dL_areRecordsRight_114 : decode cL_areRecordsRight 114 = .ok (.iconst 5, 1) := by decide +kernel
theorem dL_areRecordsRight_115 : decode cL_areRecordsRight 115 = .ok (.invokevirtual 87, 3) := by decide +kernel
theorem dL_areRecordsRight_118 : decode cL_areRecordsRight 118 = .ok (.if_icmp .eq 5, 3) := by decide +kernel
theorem dL_areRecordsRight_121 : decode cL_areRecordsRight 121 = .ok (.iconst 0, 1) := by decide +kernel
theorem dL_areRecordsRight_122 : decode cL_areRecordsRight 122 = .ok (.ireturn, 1) := by decide +kernel
theorem dL_areRecordsRight_123 : decode cL_areRecordsRight 123 = .ok (.iconst 0, 1) := by decide +kernel
theorem dL_areRecordsRight_124 : decode cL_areRecordsRight 124 = .ok (.istore 5, 2) := by decide +kernel
theorem dL_areRecordsRight_126 : decode cL_areRecordsRight 126 = .ok (.iload 5, 2) := by decide +kernel
theorem dL_areRecordsRight_128 : decode cL_areRecordsRight 128 = .ok (.aload_n 0, 1) := by decide +kernel
theorem dL_areRecordsRight_129 : decode cL_areRecordsRight 129 = .ok (.iload_n 1, 1) := by decide +kernel
theorem dL_areRecordsRight_130 : decode cL_areRecordsRight 130 = .ok (.iconst 5, 1) := by decide +kernel
theorem dL_areRecordsRight_131 : decode cL_areRecordsRight 131 = .ok (.invokevirtual 87, 3) := by decide +kernel
theorem dL_areRecordsRight_134 : decode cL_areRecordsRight 134 = .ok (.if_icmp .ge 98, 3) := by decide +kernel
theorem dL_areRecordsRight_137 : decode cL_areRecordsRight 137 = .ok (.aload_n 0, 1) := by decide +kernel
theorem dL_areRecordsRight_138 : decode cL_areRecordsRight 138 = .ok (.iload_n 1, 1) := by decide +kernel
theorem dL_areRecordsRight_139 : decode cL_areRecordsRight 139 = .ok (.iload 5, 2) := by decide +kernel
theorem dL_areRecordsRight_141 : decode cL_areRecordsRight 141 = .ok (.invokevirtual 114, 3) := by decide +kernel
theorem dL_areRecordsRight_144 : decode cL_areRecordsRight 144 = .ok (.istore 6, 2) := by decide +kernel
theorem dL_areRecordsRight_146 : decode cL_areRecordsRight 146 = .ok (.aload_n 0, 1) := by decide +kernel
theorem dL_areRecordsRight_147 : decode cL_areRecordsRight 147 = .ok (.iload 6, 2) := by decide +kernel
theorem dL_areRecordsRight_149 : decode cL_areRecordsRight 149 = .ok (.iload_n 1, 1) := by decide +kernel
theorem dL_areRecordsRight_150 : decode cL_areRecordsRight 150 = .ok (.invokevirtual 81, 3) := by decide +kernel
theorem dL_areRecordsRight_153 : decode cL_areRecordsRight 153 = .ok (.istore 7, 2) := by decide +kernel
theorem dL_areRecordsRight_155 : decode cL_areRecordsRight 155 = .ok (.iload 4, 2) := by decide +kernel
theorem dL_areRecordsRight_157 : decode cL_areRecordsRight 157 = .ok (.ifCond .eq 8, 3) := by decide +kernel
theorem dL_areRecordsRight_160 : decode cL_areRecordsRight 160 = .ok (.iload 7, 2) := by decide +kernel
theorem dL_areRecordsRight_162 : decode cL_areRecordsRight 162 = .ok (.ifCond .ne 37, 3) := by decide +kernel
theorem dL_areRecordsRight_165 : decode cL_areRecordsRight 165 = .ok (.iload 7, 2) := by decide +kernel
theorem dL_areRecordsRight_167 : decode cL_areRecordsRight 167 = .ok (.iconst (-1), 1) := by decide +kernel
theorem dL_areRecordsRight_168 : decode cL_areRecordsRight 168 = .ok (.if_icmp .lt 31, 3) := by decide +kernel
theorem dL_areRecordsRight_171 : decode cL_areRecordsRight 171 = .ok (.iload 7, 2) := by decide +kernel
theorem dL_areRecordsRight_173 : decode cL_areRecordsRight 173 = .ok (.iconst (-1), 1) := by decide +kernel
theorem dL_areRecordsRight_174 : decode cL_areRecordsRight 174 = .ok (.if_icmp .ne 7, 3) := by decide +kernel
theorem dL_areRecordsRight_177 : decode cL_areRecordsRight 177 = .ok (.iconst 1, 1) := by decide +kernel
theorem dL_areRecordsRight_178 : decode cL_areRecordsRight 178 = .ok (.goto 4, 3) := by decide +kernel
theorem dL_areRecordsRight_181 : decode cL_areRecordsRight 181 = .ok (.iconst 0, 1) := by decide +kernel
theorem dL_areRecordsRight_182 : decode cL_areRecordsRight 182 = .ok (.iload_n 3, 1) := by decide +kernel
theorem dL_areRecordsRight_183 : decode cL_areRecordsRight 183 = .ok (.ifCond .ne 7, 3) := by decide +kernel
theorem dL_areRecordsRight_186 : decode cL_areRecordsRight 186 = .ok (.iconst 1, 1) := by decide +kernel
theorem dL_areRecordsRight_187 : decode cL_areRecordsRight 187 = .ok (.goto 4, 3) := by decide +kernel
theorem dL_areRecordsRight_190 : decode cL_areRecordsRight 190 = .ok (.iconst 0, 1) := by decide +kernel
theorem dL_areRecordsRight_191 : decode cL_areRecordsRight 191 = .ok (.if_icmp .eq 10, 3) := by decide +kernel
theorem dL_areRecordsRight_194 : decode cL_areRecordsRight 194 = .ok (.iload 7, 2) := by decide +kernel
theorem dL_areRecordsRight_196 : decode cL_areRecordsRight 196 = .ok (.ifCond .ge 5, 3) := by decide +kernel
theorem dL_areRecordsRight_199 : decode cL_areRecordsRight 199 = .ok (.iconst 0, 1) := by decide +kernel
theorem dL_areRecordsRight_200 : decode cL_areRecordsRight 200 = .ok (.ireturn, 1) := by decide +kernel
theorem dL_areRecordsRight_201 : decode cL_areRecordsRight 201 = .ok (.aload_n 0, 1) := by decide +kernel
theorem dL_areRecordsRight_202 : decode cL_areRecordsRight 202 = .ok (.iload_n 2, 1) := by decide +kernel
theorem dL_areRecordsRight_203 : decode cL_areRecordsRight 203 = .ok (.iload 5, 2) := by decide +kernel
theorem dL_areRecordsRight_205 : decode cL_areRecordsRight 205 = .ok (.invokevirtual 114, 3) := by decide +kernel
theorem dL_areRecordsRight_208 : decode cL_areRecordsRight 208 = .ok (.iload 6, 2) := by decide +kernel
theorem dL_areRecordsRight_210 : decode cL_areRecordsRight 210 = .ok (.if_icmp .ne 14, 3) := by decide +kernel
theorem dL_areRecordsRight_213 : decode cL_areRecordsRight 213 = .ok (.aload_n 0, 1) := by decide +kernel
theorem dL_areRecordsRight_214 : decode cL_areRecordsRight 214 = .ok (.iload 6, 2) := by decide +kernel
theorem dL_areRecordsRight_216 : decode cL_areRecordsRight 216 = .ok (.iconst 3, 1) := by decide +kernel
theorem dL_areRecordsRight_217 : decode cL_areRecordsRight 217 = .ok (.invokevirtual 102, 3) := by decide +kernel
theorem dL_areRecordsRight_220 : decode cL_areRecordsRight 220 = .ok (.iconst 1, 1) := by decide +kernel
theorem dL_areRecordsRight_221 : decode cL_areRecordsRight 221 = .ok (.if_icmp .ge 5, 3) := by decide +kernel
theorem dL_areRecordsRight_224 : decode cL_areRecordsRight 224 = .ok (.iconst 0, 1) := by decide +kernel
theorem dL_areRecordsRight_225 : decode cL_areRecordsRight 225 = .ok (.ireturn, 1) := by decide +kernel
theorem dL_areRecordsRight_226 : decode cL_areRecordsRight 226 = .ok (.iinc 5 1, 3) := by decide +kernel
theorem dL_areRecordsRight_229 : decode cL_areRecordsRight 229 = .ok (.goto (-103), 3) := by decide +kernel
theorem dL_areRecordsRight_232 : decode cL_areRecordsRight 232 = .ok (.aload_n 0, 1) := by decide +kernel
theorem dL_areRecordsRight_233 : decode cL_areRecordsRight 233 = .ok (.iload_n 1, 1) := by decide +kernel
theorem dL_areRecordsRight_234 : decode cL_areRecordsRight 234 = .ok (.iload_n 1, 1) := by decide +kernel
theorem dL_areRecordsRight_235 : decode cL_areRecordsRight 235 = .ok (.invokevirtual 117, 3) := by decide +kernel
theorem dL_areRecordsRight_238 : decode cL_areRecordsRight 238 = .ok (.bipush 100, 2) := by decide +kernel
theorem dL_areRecordsRight_240 : decode cL_areRecordsRight 240 = .ok (.if_icmp .ne 24, 3) := by decide +kernel
theorem dL_areRecordsRight_243 : decode cL_areRecordsRight 243 = .ok (.aload_n 0, 1) := by decide +kernel
theorem dL_areRecordsRight_244 : decode cL_areRecordsRight 244 = .ok (.iload_n 1, 1) := by decide +kernel
theorem dL_areRecordsRight_245 : decode cL_areRecordsRight 245 = .ok (.bipush 101, 2) := by decide +kernel
theorem dL_areRecordsRight_247 : decode cL_areRecordsRight 247 = .ok (.invokevirtual 120, 3) := by decide +kernel
theorem dL_areRecordsRight_250 : decode cL_areRecordsRight 250 = .ok (.iconst (-1), 1) := by decide +kernel
theorem dL_areRecordsRight_251 : decode cL_areRecordsRight 251 = .ok (.if_icmp .ne 13, 3) := by decide +kernel
theorem dL_areRecordsRight_254 : decode cL_areRecordsRight 254 = .ok (.aload_n 0, 1) := by decide +kernel
theorem dL_areRecordsRight_255 : decode cL_areRecordsRight 255 = .ok (.iload_n 1, 1) := by decide +kernel
theorem dL_areRecordsRight_256 : decode cL_areRecordsRight 256 = .ok (.iconst 0, 1) := by decide +kernel
theorem dL_areRecordsRight_257 : decode cL_areRecordsRight 257 = .ok (.invokevirtual 120, 3) := by decide +kernel
theorem dL_areRecordsRight_260 : decode cL_areRecordsRight 260 = .ok (.iload_n 2, 1) := by decide +kernel
theorem dL_areRecordsRight_261 : decode cL_areRecordsRight 261 = .ok (.if_icmp .ne 5, 3) := by decide +kernel
theorem dL_areRecordsRight_264 : decode cL_areRecordsRight 264 = .ok (.iconst 0, 1) := by decide +kernel
theorem dL_areRecordsRight_265 : decode cL_areRecordsRight 265 = .ok (.ireturn, 1) := by decide +kernel
theorem dL_areRecordsRight_266 : decode cL_areRecordsRight 266 = .ok (.iinc 1 1, 3) := by decide +kernel
theorem dL_areRecordsRight_269 : decode cL_areRecordsRight 269 = .ok (.goto (-267), 3) := by decide +kernel
theorem dL_areRecordsRight_272 : decode cL_areRecordsRight 272 = .ok (.iconst 1, 1) := by decide +kernel
theorem dL_areRecordsRight_273 : decode cL_areRecordsRight 273 = .ok (.ireturn, 1) := by decide +kernel
theorem dL_areReadersRight_0 : decode cL_areReadersRight 0 = .ok (.iconst 0, 1) := by decide +kernel
theorem dL_areReadersRight_1 : decode cL_areReadersRight 1 = .ok (.istore_n 1, 1) := by decide +kernel
theorem dL_areReadersRight_2 : decode cL_areReadersRight 2 = .ok (.iconst 0, 1) := by decide +kernel
theorem dL_areReadersRight_3 : decode cL_areReadersRight 3 = .ok (.istore_n 2, 1) := by decide +kernel
theorem dL_areReadersRight_4 : decode cL_areReadersRight 4 = .ok (.iconst 0, 1) := by decide +kernel
theorem dL_areReadersRight_5 : decode cL_areReadersRight 5 = .ok (.istore_n 3, 1) := by decide +kernel
theorem dL_areReadersRight_6 : decode cL_areReadersRight 6 = .ok (.iconst 0, 1) := by decide +kernel
theorem dL_areReadersRight_7 : decode cL_areReadersRight 7 = .ok (.istore 4, 2) := by decide +kernel
theorem dL_areReadersRight_9 : decode cL_areReadersRight 9 = .ok (.iconst 0, 1) := by decide +kernel
theorem dL_areReadersRight_10 : decode cL_areReadersRight 10 = .ok (.istore 5, 2) := by decide +kernel
theorem dL_areReadersRight_12 : decode cL_areReadersRight 12 = .ok (.iload 5, 2) := by decide +kernel
theorem dL_areReadersRight_14 : decode cL_areReadersRight 14 = .ok (.aload_n 0, 1) := by decide +kernel
theorem dL_areReadersRight_15 : decode cL_areReadersRight 15 = .ok (.iconst 4, 1) := by decide +kernel
theorem dL_areReadersRight_16 : decode cL_areReadersRight 16 = .ok (.invokevirtual 34, 3) := by decide +kernel
theorem dL_areReadersRight_19 : decode cL_areReadersRight 19 = .ok (.if_icmp .ge 192, 3) := by decide +kernel
theorem dL_areReadersRight_22 : decode cL_areReadersRight 22 = .ok (.iload_n 1, 1) := by decide +kernel
theorem dL_areReadersRight_23 : decode cL_areReadersRight 23 = .ok (.aload_n 0, 1) := by decide +kernel
theorem dL_areReadersRight_24 : decode cL_areReadersRight 24 = .ok (.iload 5, 2) := by decide +kernel
theorem dL_areReadersRight_26 : decode cL_areReadersRight 26 = .ok (.iconst 2, 1) := by decide +kernel
theorem dL_areReadersRight_27 : decode cL_areReadersRight 27 = .ok (.invokevirtual 102, 3) := by decide +kernel
theorem dL_areReadersRight_30 : decode cL_areReadersRight 30 = .ok (.iadd, 1) := by decide +kernel
theorem dL_areReadersRight_31 : decode cL_areReadersRight 31 = .ok (.istore_n 1, 1) := by decide +kernel
theorem dL_areReadersRight_32 : decode cL_areReadersRight 32 = .ok (.iload_n 2, 1) := by decide +kernel
theorem dL_areReadersRight_33 : decode cL_areReadersRight 33 = .ok (.aload_n 0, 1) := by decide +kernel
theorem dL_areReadersRight_34 : decode cL_areReadersRight 34 = .ok (.iload 5, 2) := by decide +kernel
theorem dL_areReadersRight_36 : decode cL_areReadersRight 36 = .ok (.iconst 1, 1) := by decide +kernel
theorem dL_areReadersRight_37 : decode cL_areReadersRight 37 = .ok (.invokevirtual 102, 3) := by decide +kernel
theorem dL_areReadersRight_40 : decode cL_areReadersRight 40 = .ok (.iadd, 1) := by decide +kernel
theorem dL_areReadersRight_41 : decode cL_areReadersRight 41 = .ok (.istore_n 2, 1) := by decide +kernel
theorem dL_areReadersRight_42 : decode cL_areReadersRight 42 = .ok (.iload_n 3, 1) := by decide +kernel
theorem dL_areReadersRight_43 : decode cL_areReadersRight 43 = .ok (.aload_n 0, 1) := by decide +kernel
theorem dL_areReadersRight_44 : decode cL_areReadersRight 44 = .ok (.iload 5, 2) := by decide +kernel
theorem dL_areReadersRight_46 : decode cL_areReadersRight 46 = .ok (.iconst 4, 1) := by decide +kernel
theorem dL_areReadersRight_47 : decode cL_areReadersRight 47 = .ok (.invokevirtual 102, 3) := by decide +kernel
theorem dL_areReadersRight_50 : decode cL_areReadersRight 50 = .ok (.iadd, 1) := by decide +kernel
theorem dL_areReadersRight_51 : decode cL_areReadersRight 51 = .ok (.istore_n 3, 1) := by decide +kernel
theorem dL_areReadersRight_52 : decode cL_areReadersRight 52 = .ok (.iload 4, 2) := by decide +kernel
theorem dL_areReadersRight_54 : decode cL_areReadersRight 54 = .ok (.aload_n 0, 1) := by decide +kernel
theorem dL_areReadersRight_55 : decode cL_areReadersRight 55 = .ok (.iload 5, 2) := by decide +kernel
theorem dL_areReadersRight_57 : decode cL_areReadersRight 57 = .ok (.iconst 3, 1) := by decide +kernel
theorem dL_areReadersRight_58 : decode cL_areReadersRight 58 = .ok (.invokevirtual 102, 3) := by decide +kernel
theorem dL_areReadersRight_61 : decode cL_areReadersRight 61 = .ok (.iadd, 1) := by decide +kernel
theorem dL_areReadersRight_62 : decode cL_areReadersRight 62 = .ok (.istore 4, 2) := by decide +kernel
theorem dL_areReadersRight_64 : decode cL_areReadersRight 64 = .ok (.aload_n 0, 1) := by decide +kernel
theorem dL_areReadersRight_65 : decode cL_areReadersRight 65 = .ok (.iload 5, 2) := by decide +kernel
theorem dL_areReadersRight_67 : decode cL_areReadersRight 67 = .ok (.invokevirtual 123, 3) := by decide +kernel
theorem dL_areReadersRight_70 : decode cL_areReadersRight 70 = .ok (.istore 6, 2) := by decide +kernel
theorem dL_areReadersRight_72 : decode cL_areReadersRight 72 = .ok (.aload_n 0, 1) := by decide +kernel
theorem dL_areReadersRight_73 : decode cL_areReadersRight 73 = .ok (.iload 5, 2) := by decide +kernel
theorem dL_areReadersRight_75 : decode cL_areReadersRight 75 = .ok (.iconst 1, 1) := by decide +kernel
theorem dL_areReadersRight_76 : decode cL_areReadersRight 76 = .ok (.invokevirtual 102, 3) := by decide +kernel
theorem dL_areReadersRight_79 : decode cL_areReadersRight 79 = .ok (.iconst 2, 1) := by decide +kernel
theorem dL_areReadersRight_80 : decode cL_areReadersRight 80 = .ok (.iconst 2, 1) := by decide +kernel
theorem dL_areReadersRight_81 : decode cL_areReadersRight 81 = .ok (.aload_n 0, 1) := by decide +kernel
theorem dL_areReadersRight_82 : decode cL_areReadersRight 82 = .ok (.iload 5, 2) := by decide +kernel
theorem dL_areReadersRight_84 : decode cL_areReadersRight 84 = .ok (.iconst 0, 1) := by decide +kernel
theorem dL_areReadersRight_85 : decode cL_areReadersRight 85 = .ok (.invokevirtual 102, 3) := by decide +kernel
theorem dL_areReadersRight_88 : decode cL_areReadersRight 88 = .ok (.imul, 1) := by decide +kernel
theorem dL_areReadersRight_89 : decode cL_areReadersRight 89 = .ok (.iadd, 1) := by decide +kernel
theorem dL_areReadersRight_90 : decode cL_areReadersRight 90 = .ok (.if_icmp .gt 113, 3) := by decide +kernel
theorem dL_areReadersRight_93 : decode cL_areReadersRight 93 = .ok (.aload_n 0, 1) := by decide +kernel
theorem dL_areReadersRight_94 : decode cL_areReadersRight 94 = .ok (.iload 5, 2) := by decide +kernel
theorem dL_areReadersRight_96 : decode cL_areReadersRight 96 = .ok (.iconst 5, 1) := by decide +kernel
theorem dL_areReadersRight_97 : decode cL_areReadersRight 97 = .ok (.invokevirtual 102, 3) := by decide +kernel
theorem dL_areReadersRight_100 : decode cL_areReadersRight 100 = .ok (.aload_n 0, 1) := by decide +kernel
theorem dL_areReadersRight_101 : decode cL_areReadersRight 101 = .ok (.iload 5, 2) := by decide +kernel
theorem dL_areReadersRight_103 : decode cL_areReadersRight 103 = .ok (.iconst 1, 1) := by decide +kernel
theorem dL_areReadersRight_104 : decode cL_areReadersRight 104 = .ok (.invokevirtual 102, 3) := by decide +kernel
theorem dL_areReadersRight_107 : decode cL_areReadersRight 107 = .ok (.if_icmp .gt 96, 3) := by decide +kernel
theorem dL_areReadersRight_110 : decode cL_areReadersRight 110 = .ok (.aload_n 0, 1) := by decide +kernel
theorem dL_areReadersRight_111 : decode cL_areReadersRight 111 = .ok (.iload 5, 2) := by decide +kernel
theorem dL_areReadersRight_113 : decode cL_areReadersRight 113 = .ok (.iconst 4, 1) := by decide +kernel
theorem dL_areReadersRight_114 : decode cL_areReadersRight 114 = .ok (.invokevirtual 102, 3) := by decide +kernel
theorem dL_areReadersRight_117 : decode cL_areReadersRight 117 = .ok (.aload_n 0, 1) := by decide +kernel
theorem dL_areReadersRight_118 : decode cL_areReadersRight 118 = .ok (.iload 5, 2) := by decide +kernel
theorem dL_areReadersRight_120 : decode cL_areReadersRight 120 = .ok (.iconst 3, 1) := by decide +kernel
theorem dL_areReadersRight_121 : decode cL_areReadersRight 121 = .ok (.invokevirtual 102, 3) := by decide +kernel
theorem dL_areReadersRight_124 : decode cL_areReadersRight 124 = .ok (.if_icmp .gt 79, 3) := by decide +kernel
theorem dL_areReadersRight_127 : decode cL_areReadersRight 127 = .ok (.aload_n 0, 1) := by decide +kernel
theorem dL_areReadersRight_128 : decode cL_areReadersRight 128 = .ok (.iload 5, 2) := by decide +kernel
theorem dL_areReadersRight_130 : decode cL_areReadersRight 130 = .ok (.iconst 2, 1) := by decide +kernel
theorem dL_areReadersRight_131 : decode cL_areReadersRight 131 = .ok (.invokevirtual 102, 3) := by decide +kernel
theorem dL_areReadersRight_134 : decode cL_areReadersRight 134 = .ok (.ifCond .lt 69, 3) := by decide +kernel
theorem dL_areReadersRight_137 : decode cL_areReadersRight 137 = .ok (.iload 6, 2) := by decide +kernel
theorem dL_areReadersRight_139 : decode cL_areReadersRight 139 = .ok (.aload_n 0, 1) := by decide +kernel
theorem dL_areReadersRight_140 : decode cL_areReadersRight 140 = .ok (.iconst 5, 1) := by decide +kernel
theorem dL_areReadersRight_141 : decode cL_areReadersRight 141 = .ok (.invokevirtual 34, 3) := by decide +kernel
theorem dL_areReadersRight_144 : decode cL_areReadersRight 144 = .ok (.aload_n 0, 1) := by decide +kernel
theorem dL_areReadersRight_145 : decode cL_areReadersRight 145 = .ok (.iload 5, 2) := by decide +kernel
theorem dL_areReadersRight_147 : decode cL_areReadersRight 147 = .ok (.iconst 4, 1) := by decide +kernel
theorem dL_areReadersRight_148 : decode cL_areReadersRight 148 = .ok (.invokevirtual 102, 3) := by decide +kernel
theorem dL_areReadersRight_151 : decode cL_areReadersRight 151 = .ok (.iadd, 1) := by decide +kernel
theorem dL_areReadersRight_152 : decode cL_areReadersRight 152 = .ok (.if_icmp .gt 51, 3) := by decide +kernel
theorem dL_areReadersRight_155 : decode cL_areReadersRight 155 = .ok (.iload 6, 2) := by decide +kernel
theorem dL_areReadersRight_157 : decode cL_areReadersRight 157 = .ok (.ifCond .le 25, 3) := by decide +kernel
theorem dL_areReadersRight_160 : decode cL_areReadersRight 160 = .ok (.aload_n 0, 1) := by decide +kernel
theorem dL_areReadersRight_161 : decode cL_areReadersRight 161 = .ok (.iload 5, 2) := by decide +kernel
theorem dL_areReadersRight_163 : decode cL_areReadersRight 163 = .ok (.iconst 2, 1) := by decide +kernel
theorem dL_areReadersRight_164 : decode cL_areReadersRight 164 = .ok (.invokevirtual 102, 3) := by decide +kernel
theorem dL_areReadersRight_167 : decode cL_areReadersRight 167 = .ok (.bipush 50, 2) := by decide +kernel
theorem dL_areReadersRight_169 : decode cL_areReadersRight 169 = .ok (.if_icmp .gt 34, 3) := by decide +kernel
theorem dL_areReadersRight_172 : decode cL_areReadersRight 172 = .ok (.aload_n 0, 1) := by decide +kernel
theorem dL_areReadersRight_173 : decode cL_areReadersRight 173 = .ok (.iload 5, 2) := by decide +kernel
theorem dL_areReadersRight_175 : decode cL_areReadersRight 175 = .ok (.iconst 5, 1) := by decide +kernel
theorem dL_areReadersRight_176 : decode cL_areReadersRight 176 = .ok (.invokevirtual 102, 3) := by decide +kernel
theorem dL_areReadersRight_179 : decode cL_areReadersRight 179 = .ok (.ifCond .gt 24, 3) := by decide +kernel
theorem dL_areReadersRight_182 : decode cL_areReadersRight 182 = .ok (.aload_n 0, 1) := by decide +kernel
theorem dL_areReadersRight_183 : decode cL_areReadersRight 183 = .ok (.iload 5, 2) := by decide +kernel
theorem dL_areReadersRight_185 : decode cL_areReadersRight 185 = .ok (.bipush 6, 2) := by decide +kernel
theorem dL_areReadersRight_187 : decode cL_areReadersRight 187 = .ok (.invokevirtual 102, 3) := by decide +kernel
theorem dL_areReadersRight_190 : decode cL_areReadersRight 190 = .ok (.bipush 40, 2) := by decide +kernel
theorem dL_areReadersRight_192 : decode cL_areReadersRight 192 = .ok (.aload_n 0, 1) := by decide +kernel
theorem dL_areReadersRight_193 : decode cL_areReadersRight 193 = .ok (.iload 5, 2) := by decide +kernel
theorem dL_areReadersRight_195 : decode cL_areReadersRight 195 = .ok (.iconst 5, 1) := by decide +kernel
theorem dL_areReadersRight_196 : decode cL_areReadersRight 196 = .ok (.invokevirtual 102, 3) := by decide +kernel
theorem dL_areReadersRight_199 : decode cL_areReadersRight 199 = .ok (.imul, 1) := by decide +kernel
theorem dL_areReadersRight_200 : decode cL_areReadersRight 200 = .ok (.if_icmp .le 5, 3) := by decide +kernel
theorem dL_areReadersRight_203 : decode cL_areReadersRight 203 = .ok (.iconst 0, 1) := by decide +kernel
theorem dL_areReadersRight_204 : decode cL_areReadersRight 204 = .ok (.ireturn, 1) := by decide +kernel
theorem dL_areReadersRight_205 : decode cL_areReadersRight 205 = .ok (.iinc 5 1, 3) := by decide +kernel
theorem dL_areReadersRight_208 : decode cL_areReadersRight 208 = .ok (.goto (-196), 3) := by decide +kernel
theorem dL_areReadersRight_211 : decode cL_areReadersRight 211 = .ok (.aload_n 0, 1) := by decide +kernel
theorem dL_areReadersRight_212 : decode cL_areReadersRight 212 = .ok (.bipush 9, 2) := by decide +kernel
theorem dL_areReadersRight_214 : decode cL_areReadersRight 214 = .ok (.invokevirtual 34, 3) := by decide +kernel
theorem dL_areReadersRight_217 : decode cL_areReadersRight 217 = .ok (.iload_n 1, 1) := by decide +kernel
theorem dL_areReadersRight_218 : decode cL_areReadersRight 218 = .ok (.if_icmp .ne 52, 3) := by decide +kernel
theorem dL_areReadersRight_221 : decode cL_areReadersRight 221 = .ok (.aload_n 0, 1) := by decide +kernel
theorem dL_areReadersRight_222 : decode cL_areReadersRight 222 = .ok (.bipush 6, 2) := by decide +kernel
theorem dL_areReadersRight_224 : decode cL_areReadersRight 224 = .ok (.invokevirtual 34, 3) := by decide +kernel
theorem dL_areReadersRight_227 : decode cL_areReadersRight 227 = .ok (.iload_n 2, 1) := by decide +kernel
theorem dL_areReadersRight_228 : decode cL_areReadersRight 228 = .ok (.if_icmp .ne 42, 3) := by decide +kernel
theorem dL_areReadersRight_231 : decode cL_areReadersRight 231 = .ok (.aload_n 0, 1) := by decide +kernel
theorem dL_areReadersRight_232 : decode cL_areReadersRight 232 = .ok (.bipush 7, 2) := by decide +kernel
theorem dL_areReadersRight_234 : decode cL_areReadersRight 234 = .ok (.invokevirtual 34, 3) := by decide +kernel
theorem dL_areReadersRight_237 : decode cL_areReadersRight 237 = .ok (.iload_n 3, 1) := by decide +kernel
theorem dL_areReadersRight_238 : decode cL_areReadersRight 238 = .ok (.if_icmp .ne 32, 3) := by decide +kernel
theorem dL_areReadersRight_241 : decode cL_areReadersRight 241 = .ok (.aload_n 0, 1) := by decide +kernel
theorem dL_areReadersRight_242 : decode cL_areReadersRight 242 = .ok (.invokevirtual 126, 3) := by decide +kernel
theorem dL_areReadersRight_245 : decode cL_areReadersRight 245 = .ok (.aload_n 0, 1) := by decide +kernel
theorem dL_areReadersRight_246 : decode cL_areReadersRight 246 = .ok (.iconst 4, 1) := by decide +kernel
theorem dL_areReadersRight_247 : decode cL_areReadersRight 247 = .ok (.invokevirtual 34, 3) := by decide +kernel
theorem dL_areReadersRight_250 : decode cL_areReadersRight 250 = .ok (.i2d, 1) := by decide +kernel
theorem dL_areReadersRight_251 : decode cL_areReadersRight 251 = .ok (.dmul, 1) := by decide +kernel
theorem dL_areReadersRight_252 : decode cL_areReadersRight 252 = .ok (.iload 4, 2) := by decide +kernel
theorem dL_areReadersRight_254 : decode cL_areReadersRight 254 = .ok (.i2d, 1) := by decide +kernel
theorem dL_areReadersRight_255 : decode cL_areReadersRight 255 = .ok (.dsub, 1) := by decide +kernel
theorem dL_areReadersRight_256 : decode cL_areReadersRight 256 = .ok (.invokestatic 130, 3) := by decide +kernel
theorem dL_areReadersRight_259 : decode cL_areReadersRight 259 = .ok (.ldc2_w 134, 3) := by decide +kernel
theorem dL_areReadersRight_262 : decode cL_areReadersRight 262 = .ok (.dcmp .g, 1) := by decide +kernel
theorem dL_areReadersRight_263 : decode cL_areReadersRight 263 = .ok (.ifCond .ge 7, 3) := by decide +kernel
theorem dL_areReadersRight_266 : decode cL_areReadersRight 266 = .ok (.iconst 1, 1) := by decide +kernel
theorem dL_areReadersRight_267 : decode cL_areReadersRight 267 = .ok (.goto 4, 3) := by decide +kernel
theorem dL_areReadersRight_270 : decode cL_areReadersRight 270 = .ok (.iconst 0, 1) := by decide +kernel
theorem dL_areReadersRight_271 : decode cL_areReadersRight 271 = .ok (.ireturn, 1) := by decide +kernel
