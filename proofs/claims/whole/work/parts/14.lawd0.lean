abbrev b_LW_law : ByteArray := code
theorem d_LW_law_0 : decode b_LW_law 0 = .ok (.new 7, 3) := by decide +kernel
theorem d_LW_law_3 : decode b_LW_law 3 = .ok (.dup, 1) := by decide +kernel
theorem d_LW_law_4 : decode b_LW_law 4 = .ok (.invokespecial 9, 3) := by decide +kernel
theorem d_LW_law_7 : decode b_LW_law 7 = .ok (.astore_n 1, 1) := by decide +kernel
theorem d_LW_law_8 : decode b_LW_law 8 = .ok (.new 10, 3) := by decide +kernel
theorem d_LW_law_11 : decode b_LW_law 11 = .ok (.dup, 1) := by decide +kernel
theorem d_LW_law_12 : decode b_LW_law 12 = .ok (.invokespecial 12, 3) := by decide +kernel
theorem d_LW_law_15 : decode b_LW_law 15 = .ok (.astore_n 2, 1) := by decide +kernel
theorem d_LW_law_16 : decode b_LW_law 16 = .ok (.iconst 0, 1) := by decide +kernel
theorem d_LW_law_17 : decode b_LW_law 17 = .ok (.istore_n 3, 1) := by decide +kernel
theorem d_LW_law_18 : decode b_LW_law 18 = .ok (.iload_n 3, 1) := by decide +kernel
theorem d_LW_law_19 : decode b_LW_law 19 = .ok (.aload_n 0, 1) := by decide +kernel
theorem d_LW_law_20 : decode b_LW_law 20 = .ok (.arraylength, 1) := by decide +kernel
theorem d_LW_law_21 : decode b_LW_law 21 = .ok (.bipush 6, 2) := by decide +kernel
theorem d_LW_law_23 : decode b_LW_law 23 = .ok (.isub, 1) := by decide +kernel
theorem d_LW_law_24 : decode b_LW_law 24 = .ok (.if_icmp .gt 832, 3) := by decide +kernel
theorem d_LW_law_27 : decode b_LW_law 27 = .ok (.aload_n 0, 1) := by decide +kernel
theorem d_LW_law_28 : decode b_LW_law 28 = .ok (.iload_n 3, 1) := by decide +kernel
theorem d_LW_law_29 : decode b_LW_law 29 = .ok (.iaload, 1) := by decide +kernel
theorem d_LW_law_30 : decode b_LW_law 30 = .ok (.bipush 31, 2) := by decide +kernel
theorem d_LW_law_32 : decode b_LW_law 32 = .ok (.iand, 1) := by decide +kernel
theorem d_LW_law_33 : decode b_LW_law 33 = .ok (.tableswitch 817 0 19 #[95, 128, 161, 230, 253, 312, 355, 418, 441, 494, 517, 540, 573, 616, 659, 692, 735, 768, 791, 804], 95) := by decide +kernel
theorem d_LW_law_128 : decode b_LW_law 128 = .ok (.aload_n 1, 1) := by decide +kernel
theorem d_LW_law_129 : decode b_LW_law 129 = .ok (.aload_n 0, 1) := by decide +kernel
theorem d_LW_law_130 : decode b_LW_law 130 = .ok (.iload_n 3, 1) := by decide +kernel
theorem d_LW_law_131 : decode b_LW_law 131 = .ok (.iconst 1, 1) := by decide +kernel
theorem d_LW_law_132 : decode b_LW_law 132 = .ok (.iadd, 1) := by decide +kernel
theorem d_LW_law_133 : decode b_LW_law 133 = .ok (.iaload, 1) := by decide +kernel
theorem d_LW_law_134 : decode b_LW_law 134 = .ok (.aload_n 0, 1) := by decide +kernel
theorem d_LW_law_135 : decode b_LW_law 135 = .ok (.iload_n 3, 1) := by decide +kernel
theorem d_LW_law_136 : decode b_LW_law 136 = .ok (.iconst 2, 1) := by decide +kernel
theorem d_LW_law_137 : decode b_LW_law 137 = .ok (.iadd, 1) := by decide +kernel
theorem d_LW_law_138 : decode b_LW_law 138 = .ok (.iaload, 1) := by decide +kernel
theorem d_LW_law_139 : decode b_LW_law 139 = .ok (.invokevirtual 13, 3) := by decide +kernel
theorem d_LW_law_142 : decode b_LW_law 142 = .ok (.aload_n 2, 1) := by decide +kernel
theorem d_LW_law_143 : decode b_LW_law 143 = .ok (.aload_n 0, 1) := by decide +kernel
theorem d_LW_law_144 : decode b_LW_law 144 = .ok (.iload_n 3, 1) := by decide +kernel
theorem d_LW_law_145 : decode b_LW_law 145 = .ok (.iconst 1, 1) := by decide +kernel
theorem d_LW_law_146 : decode b_LW_law 146 = .ok (.iadd, 1) := by decide +kernel
theorem d_LW_law_147 : decode b_LW_law 147 = .ok (.iaload, 1) := by decide +kernel
theorem d_LW_law_148 : decode b_LW_law 148 = .ok (.aload_n 0, 1) := by decide +kernel
theorem d_LW_law_149 : decode b_LW_law 149 = .ok (.iload_n 3, 1) := by decide +kernel
theorem d_LW_law_150 : decode b_LW_law 150 = .ok (.iconst 2, 1) := by decide +kernel
theorem d_LW_law_151 : decode b_LW_law 151 = .ok (.iadd, 1) := by decide +kernel
theorem d_LW_law_152 : decode b_LW_law 152 = .ok (.iaload, 1) := by decide +kernel
theorem d_LW_law_153 : decode b_LW_law 153 = .ok (.invokevirtual 17, 3) := by decide +kernel
theorem d_LW_law_156 : decode b_LW_law 156 = .ok (.if_icmp .eq 694, 3) := by decide +kernel
theorem d_LW_law_159 : decode b_LW_law 159 = .ok (.iconst 0, 1) := by decide +kernel
theorem d_LW_law_160 : decode b_LW_law 160 = .ok (.ireturn, 1) := by decide +kernel
theorem d_LW_law_161 : decode b_LW_law 161 = .ok (.aload_n 1, 1) := by decide +kernel
theorem d_LW_law_162 : decode b_LW_law 162 = .ok (.aload_n 0, 1) := by decide +kernel
theorem d_LW_law_163 : decode b_LW_law 163 = .ok (.iload_n 3, 1) := by decide +kernel
theorem d_LW_law_164 : decode b_LW_law 164 = .ok (.iconst 1, 1) := by decide +kernel
theorem d_LW_law_165 : decode b_LW_law 165 = .ok (.iadd, 1) := by decide +kernel
theorem d_LW_law_166 : decode b_LW_law 166 = .ok (.iaload, 1) := by decide +kernel
theorem d_LW_law_167 : decode b_LW_law 167 = .ok (.aload_n 0, 1) := by decide +kernel
theorem d_LW_law_168 : decode b_LW_law 168 = .ok (.iload_n 3, 1) := by decide +kernel
theorem d_LW_law_169 : decode b_LW_law 169 = .ok (.iconst 2, 1) := by decide +kernel
theorem d_LW_law_170 : decode b_LW_law 170 = .ok (.iadd, 1) := by decide +kernel
theorem d_LW_law_171 : decode b_LW_law 171 = .ok (.iaload, 1) := by decide +kernel
theorem d_LW_law_172 : decode b_LW_law 172 = .ok (.invokevirtual 18, 3) := by decide +kernel
theorem d_LW_law_175 : decode b_LW_law 175 = .ok (.aload_n 2, 1) := by decide +kernel
theorem d_LW_law_176 : decode b_LW_law 176 = .ok (.aload_n 0, 1) := by decide +kernel
theorem d_LW_law_177 : decode b_LW_law 177 = .ok (.iload_n 3, 1) := by decide +kernel
theorem d_LW_law_178 : decode b_LW_law 178 = .ok (.iconst 1, 1) := by decide +kernel
theorem d_LW_law_179 : decode b_LW_law 179 = .ok (.iadd, 1) := by decide +kernel
theorem d_LW_law_180 : decode b_LW_law 180 = .ok (.iaload, 1) := by decide +kernel
theorem d_LW_law_181 : decode b_LW_law 181 = .ok (.aload_n 0, 1) := by decide +kernel
theorem d_LW_law_182 : decode b_LW_law 182 = .ok (.iload_n 3, 1) := by decide +kernel
theorem d_LW_law_183 : decode b_LW_law 183 = .ok (.iconst 2, 1) := by decide +kernel
theorem d_LW_law_184 : decode b_LW_law 184 = .ok (.iadd, 1) := by decide +kernel
theorem d_LW_law_185 : decode b_LW_law 185 = .ok (.iaload, 1) := by decide +kernel
theorem d_LW_law_186 : decode b_LW_law 186 = .ok (.invokevirtual 22, 3) := by decide +kernel
theorem d_LW_law_189 : decode b_LW_law 189 = .ok (.if_icmp .eq 661, 3) := by decide +kernel
theorem d_LW_law_192 : decode b_LW_law 192 = .ok (.iconst 0, 1) := by decide +kernel
theorem d_LW_law_193 : decode b_LW_law 193 = .ok (.ireturn, 1) := by decide +kernel
theorem d_LW_law_194 : decode b_LW_law 194 = .ok (.aload_n 1, 1) := by decide +kernel
theorem d_LW_law_195 : decode b_LW_law 195 = .ok (.aload_n 0, 1) := by decide +kernel
theorem d_LW_law_196 : decode b_LW_law 196 = .ok (.iload_n 3, 1) := by decide +kernel
theorem d_LW_law_197 : decode b_LW_law 197 = .ok (.iconst 1, 1) := by decide +kernel
theorem d_LW_law_198 : decode b_LW_law 198 = .ok (.iadd, 1) := by decide +kernel
theorem d_LW_law_199 : decode b_LW_law 199 = .ok (.iaload, 1) := by decide +kernel
theorem d_LW_law_200 : decode b_LW_law 200 = .ok (.aload_n 0, 1) := by decide +kernel
theorem d_LW_law_201 : decode b_LW_law 201 = .ok (.iload_n 3, 1) := by decide +kernel
theorem d_LW_law_202 : decode b_LW_law 202 = .ok (.iconst 2, 1) := by decide +kernel
theorem d_LW_law_203 : decode b_LW_law 203 = .ok (.iadd, 1) := by decide +kernel
theorem d_LW_law_204 : decode b_LW_law 204 = .ok (.iaload, 1) := by decide +kernel
theorem d_LW_law_205 : decode b_LW_law 205 = .ok (.aload_n 0, 1) := by decide +kernel
theorem d_LW_law_206 : decode b_LW_law 206 = .ok (.iload_n 3, 1) := by decide +kernel
theorem d_LW_law_207 : decode b_LW_law 207 = .ok (.iconst 3, 1) := by decide +kernel
theorem d_LW_law_208 : decode b_LW_law 208 = .ok (.iadd, 1) := by decide +kernel
theorem d_LW_law_209 : decode b_LW_law 209 = .ok (.iaload, 1) := by decide +kernel
theorem d_LW_law_210 : decode b_LW_law 210 = .ok (.aload_n 0, 1) := by decide +kernel
theorem d_LW_law_211 : decode b_LW_law 211 = .ok (.iload_n 3, 1) := by decide +kernel
theorem d_LW_law_212 : decode b_LW_law 212 = .ok (.iconst 4, 1) := by decide +kernel
theorem d_LW_law_213 : decode b_LW_law 213 = .ok (.iadd, 1) := by decide +kernel
theorem d_LW_law_214 : decode b_LW_law 214 = .ok (.iaload, 1) := by decide +kernel
theorem d_LW_law_215 : decode b_LW_law 215 = .ok (.ifCond .eq 7, 3) := by decide +kernel
theorem d_LW_law_218 : decode b_LW_law 218 = .ok (.iconst 1, 1) := by decide +kernel
theorem d_LW_law_219 : decode b_LW_law 219 = .ok (.goto 4, 3) := by decide +kernel
theorem d_LW_law_222 : decode b_LW_law 222 = .ok (.iconst 0, 1) := by decide +kernel
theorem d_LW_law_223 : decode b_LW_law 223 = .ok (.invokevirtual 23, 3) := by decide +kernel
theorem d_LW_law_226 : decode b_LW_law 226 = .ok (.aload_n 2, 1) := by decide +kernel
theorem d_LW_law_227 : decode b_LW_law 227 = .ok (.aload_n 0, 1) := by decide +kernel
theorem d_LW_law_228 : decode b_LW_law 228 = .ok (.iload_n 3, 1) := by decide +kernel
theorem d_LW_law_229 : decode b_LW_law 229 = .ok (.iconst 1, 1) := by decide +kernel
theorem d_LW_law_230 : decode b_LW_law 230 = .ok (.iadd, 1) := by decide +kernel
theorem d_LW_law_231 : decode b_LW_law 231 = .ok (.iaload, 1) := by decide +kernel
theorem d_LW_law_232 : decode b_LW_law 232 = .ok (.aload_n 0, 1) := by decide +kernel
theorem d_LW_law_233 : decode b_LW_law 233 = .ok (.iload_n 3, 1) := by decide +kernel
theorem d_LW_law_234 : decode b_LW_law 234 = .ok (.iconst 2, 1) := by decide +kernel
theorem d_LW_law_235 : decode b_LW_law 235 = .ok (.iadd, 1) := by decide +kernel
theorem d_LW_law_236 : decode b_LW_law 236 = .ok (.iaload, 1) := by decide +kernel
theorem d_LW_law_237 : decode b_LW_law 237 = .ok (.aload_n 0, 1) := by decide +kernel
theorem d_LW_law_238 : decode b_LW_law 238 = .ok (.iload_n 3, 1) := by decide +kernel
theorem d_LW_law_239 : decode b_LW_law 239 = .ok (.iconst 3, 1) := by decide +kernel
theorem d_LW_law_240 : decode b_LW_law 240 = .ok (.iadd, 1) := by decide +kernel
theorem d_LW_law_241 : decode b_LW_law 241 = .ok (.iaload, 1) := by decide +kernel
theorem d_LW_law_242 : decode b_LW_law 242 = .ok (.aload_n 0, 1) := by decide +kernel
theorem d_LW_law_243 : decode b_LW_law 243 = .ok (.iload_n 3, 1) := by decide +kernel
theorem d_LW_law_244 : decode b_LW_law 244 = .ok (.iconst 4, 1) := by decide +kernel
theorem d_LW_law_245 : decode b_LW_law 245 = .ok (.iadd, 1) := by decide +kernel
theorem d_LW_law_246 : decode b_LW_law 246 = .ok (.iaload, 1) := by decide +kernel
theorem d_LW_law_247 : decode b_LW_law 247 = .ok (.ifCond .eq 7, 3) := by decide +kernel
theorem d_LW_law_250 : decode b_LW_law 250 = .ok (.iconst 1, 1) := by decide +kernel
theorem d_LW_law_251 : decode b_LW_law 251 = .ok (.goto 4, 3) := by decide +kernel
theorem d_LW_law_254 : decode b_LW_law 254 = .ok (.iconst 0, 1) := by decide +kernel
theorem d_LW_law_255 : decode b_LW_law 255 = .ok (.invokevirtual 27, 3) := by decide +kernel
theorem d_LW_law_258 : decode b_LW_law 258 = .ok (.if_icmp .eq 592, 3) := by decide +kernel
theorem d_LW_law_261 : decode b_LW_law 261 = .ok (.iconst 0, 1) := by decide +kernel
theorem d_LW_law_262 : decode b_LW_law 262 = .ok (.ireturn, 1) := by decide +kernel
theorem d_LW_law_263 : decode b_LW_law 263 = .ok (.aload_n 1, 1) := by decide +kernel
theorem d_LW_law_264 : decode b_LW_law 264 = .ok (.aload_n 0, 1) := by decide +kernel
theorem d_LW_law_265 : decode b_LW_law 265 = .ok (.iload_n 3, 1) := by decide +kernel
theorem d_LW_law_266 : decode b_LW_law 266 = .ok (.iconst 1, 1) := by decide +kernel
theorem d_LW_law_267 : decode b_LW_law 267 = .ok (.iadd, 1) := by decide +kernel
theorem d_LW_law_268 : decode b_LW_law 268 = .ok (.iaload, 1) := by decide +kernel
theorem d_LW_law_269 : decode b_LW_law 269 = .ok (.invokevirtual 28, 3) := by decide +kernel
theorem d_LW_law_272 : decode b_LW_law 272 = .ok (.aload_n 2, 1) := by decide +kernel
theorem d_LW_law_273 : decode b_LW_law 273 = .ok (.aload_n 0, 1) := by decide +kernel
theorem d_LW_law_274 : decode b_LW_law 274 = .ok (.iload_n 3, 1) := by decide +kernel
theorem d_LW_law_275 : decode b_LW_law 275 = .ok (.iconst 1, 1) := by decide +kernel
theorem d_LW_law_276 : decode b_LW_law 276 = .ok (.iadd, 1) := by decide +kernel
theorem d_LW_law_277 : decode b_LW_law 277 = .ok (.iaload, 1) := by decide +kernel
theorem d_LW_law_278 : decode b_LW_law 278 = .ok (.invokevirtual 32, 3) := by decide +kernel
theorem d_LW_law_281 : decode b_LW_law 281 = .ok (.if_icmp .eq 569, 3) := by decide +kernel
theorem d_LW_law_284 : decode b_LW_law 284 = .ok (.iconst 0, 1) := by decide +kernel
theorem d_LW_law_285 : decode b_LW_law 285 = .ok (.ireturn, 1) := by decide +kernel
theorem d_LW_law_286 : decode b_LW_law 286 = .ok (.aload_n 1, 1) := by decide +kernel
theorem d_LW_law_287 : decode b_LW_law 287 = .ok (.aload_n 0, 1) := by decide +kernel
theorem d_LW_law_288 : decode b_LW_law 288 = .ok (.iload_n 3, 1) := by decide +kernel
theorem d_LW_law_289 : decode b_LW_law 289 = .ok (.iconst 1, 1) := by decide +kernel
theorem d_LW_law_290 : decode b_LW_law 290 = .ok (.iadd, 1) := by decide +kernel
theorem d_LW_law_291 : decode b_LW_law 291 = .ok (.iaload, 1) := by decide +kernel
theorem d_LW_law_292 : decode b_LW_law 292 = .ok (.aload_n 0, 1) := by decide +kernel
theorem d_LW_law_293 : decode b_LW_law 293 = .ok (.iload_n 3, 1) := by decide +kernel
theorem d_LW_law_294 : decode b_LW_law 294 = .ok (.iconst 2, 1) := by decide +kernel
theorem d_LW_law_295 : decode b_LW_law 295 = .ok (.iadd, 1) := by decide +kernel
theorem d_LW_law_296 : decode b_LW_law 296 = .ok (.iaload, 1) := by decide +kernel
