section
variable {l : Launch} {D : va_G} {ad : Nat → Nat} {cs : Nat → ClassId} {eE : Nat × Nat}
theorem d_MD_offer_0 : decode b_MD_offer 0 = .ok (.aload_n 0, 1) := by decide +kernel
theorem d_MD_offer_1 : decode b_MD_offer 1 = .ok (.iload_n 1, 1) := by decide +kernel
theorem d_MD_offer_2 : decode b_MD_offer 2 = .ok (.invokestatic 140, 3) := by decide +kernel
theorem d_MD_offer_5 : decode b_MD_offer 5 = .ok (.ifCond .eq 54, 3) := by decide +kernel
theorem d_MD_offer_8 : decode b_MD_offer 8 = .ok (.iload_n 3, 1) := by decide +kernel
theorem d_MD_offer_9 : decode b_MD_offer 9 = .ok (.invokestatic 140, 3) := by decide +kernel
theorem d_MD_offer_12 : decode b_MD_offer 12 = .ok (.ifCond .eq 47, 3) := by decide +kernel
theorem d_MD_offer_15 : decode b_MD_offer 15 = .ok (.iload_n 1, 1) := by decide +kernel
theorem d_MD_offer_16 : decode b_MD_offer 16 = .ok (.iload_n 3, 1) := by decide +kernel
theorem d_MD_offer_17 : decode b_MD_offer 17 = .ok (.if_icmp .eq 42, 3) := by decide +kernel
theorem d_MD_offer_20 : decode b_MD_offer 20 = .ok (.iload_n 2, 1) := by decide +kernel
theorem d_MD_offer_21 : decode b_MD_offer 21 = .ok (.iconst 1, 1) := by decide +kernel
theorem d_MD_offer_22 : decode b_MD_offer 22 = .ok (.if_icmp .lt 37, 3) := by decide +kernel
theorem d_MD_offer_25 : decode b_MD_offer 25 = .ok (.iload_n 2, 1) := by decide +kernel
theorem d_MD_offer_26 : decode b_MD_offer 26 = .ok (.ldc 157, 2) := by decide +kernel
theorem d_MD_offer_28 : decode b_MD_offer 28 = .ok (.if_icmp .gt 31, 3) := by decide +kernel
theorem d_MD_offer_31 : decode b_MD_offer 31 = .ok (.iload 4, 2) := by decide +kernel
theorem d_MD_offer_33 : decode b_MD_offer 33 = .ok (.iconst 1, 1) := by decide +kernel
theorem d_MD_offer_34 : decode b_MD_offer 34 = .ok (.if_icmp .lt 25, 3) := by decide +kernel
theorem d_MD_offer_37 : decode b_MD_offer 37 = .ok (.iload 4, 2) := by decide +kernel
theorem d_MD_offer_39 : decode b_MD_offer 39 = .ok (.ldc 157, 2) := by decide +kernel
theorem d_MD_offer_41 : decode b_MD_offer 41 = .ok (.if_icmp .gt 18, 3) := by decide +kernel
theorem d_MD_offer_44 : decode b_MD_offer 44 = .ok (.iload 5, 2) := by decide +kernel
theorem d_MD_offer_46 : decode b_MD_offer 46 = .ok (.ifCond .lt 13, 3) := by decide +kernel
theorem d_MD_offer_49 : decode b_MD_offer 49 = .ok (.iload 5, 2) := by decide +kernel
theorem d_MD_offer_51 : decode b_MD_offer 51 = .ok (.iconst 2, 1) := by decide +kernel
theorem d_MD_offer_52 : decode b_MD_offer 52 = .ok (.if_icmp .gt 7, 3) := by decide +kernel
theorem d_MD_offer_55 : decode b_MD_offer 55 = .ok (.iconst 1, 1) := by decide +kernel
theorem d_MD_offer_56 : decode b_MD_offer 56 = .ok (.goto 4, 3) := by decide +kernel
theorem d_MD_offer_59 : decode b_MD_offer 59 = .ok (.iconst 0, 1) := by decide +kernel
theorem d_MD_offer_60 : decode b_MD_offer 60 = .ok (.invokevirtual 150, 3) := by decide +kernel
theorem d_MD_offer_63 : decode b_MD_offer 63 = .ok (.istore 6, 2) := by decide +kernel
theorem d_MD_offer_65 : decode b_MD_offer 65 = .ok (.iload 6, 2) := by decide +kernel
theorem d_MD_offer_67 : decode b_MD_offer 67 = .ok (.ifCond .eq 6, 3) := by decide +kernel
theorem d_MD_offer_70 : decode b_MD_offer 70 = .ok (.iload 6, 2) := by decide +kernel
theorem d_MD_offer_72 : decode b_MD_offer 72 = .ok (.ireturn, 1) := by decide +kernel
theorem d_MD_offer_73 : decode b_MD_offer 73 = .ok (.aload_n 0, 1) := by decide +kernel
theorem d_MD_offer_74 : decode b_MD_offer 74 = .ok (.aload_n 0, 1) := by decide +kernel
theorem d_MD_offer_75 : decode b_MD_offer 75 = .ok (.getfield 68, 3) := by decide +kernel
theorem d_MD_offer_78 : decode b_MD_offer 78 = .ok (.iload_n 3, 1) := by decide +kernel
theorem d_MD_offer_79 : decode b_MD_offer 79 = .ok (.invokevirtual 154, 3) := by decide +kernel
theorem d_MD_offer_82 : decode b_MD_offer 82 = .ok (.istore 7, 2) := by decide +kernel
theorem d_MD_offer_84 : decode b_MD_offer 84 = .ok (.iload 7, 2) := by decide +kernel
theorem d_MD_offer_86 : decode b_MD_offer 86 = .ok (.ifCond .ne 6, 3) := by decide +kernel
theorem d_MD_offer_89 : decode b_MD_offer 89 = .ok (.bipush 22, 2) := by decide +kernel
theorem d_MD_offer_91 : decode b_MD_offer 91 = .ok (.ireturn, 1) := by decide +kernel
theorem d_MD_offer_92 : decode b_MD_offer 92 = .ok (.aload_n 0, 1) := by decide +kernel
theorem d_MD_offer_93 : decode b_MD_offer 93 = .ok (.iload_n 3, 1) := by decide +kernel
theorem d_MD_offer_94 : decode b_MD_offer 94 = .ok (.iload_n 1, 1) := by decide +kernel
theorem d_MD_offer_95 : decode b_MD_offer 95 = .ok (.iload_n 2, 1) := by decide +kernel
theorem d_MD_offer_96 : decode b_MD_offer 96 = .ok (.iload_n 2, 1) := by decide +kernel
theorem d_MD_offer_97 : decode b_MD_offer 97 = .ok (.i2l, 1) := by decide +kernel
theorem d_MD_offer_98 : decode b_MD_offer 98 = .ok (.iload 4, 2) := by decide +kernel
theorem d_MD_offer_100 : decode b_MD_offer 100 = .ok (.i2l, 1) := by decide +kernel
theorem d_MD_offer_101 : decode b_MD_offer 101 = .ok (.iload 7, 2) := by decide +kernel
theorem d_MD_offer_103 : decode b_MD_offer 103 = .ok (.i2l, 1) := by decide +kernel
theorem d_MD_offer_104 : decode b_MD_offer 104 = .ok (.invokevirtual 204, 3) := by decide +kernel
theorem d_MD_offer_107 : decode b_MD_offer 107 = .ok (.iload 5, 2) := by decide +kernel
theorem d_MD_offer_109 : decode b_MD_offer 109 = .ok (.iconst 2, 1) := by decide +kernel
theorem d_MD_offer_110 : decode b_MD_offer 110 = .ok (.if_icmp .ne 11, 3) := by decide +kernel
theorem d_MD_offer_113 : decode b_MD_offer 113 = .ok (.aload_n 0, 1) := by decide +kernel
theorem d_MD_offer_114 : decode b_MD_offer 114 = .ok (.getfield 177, 3) := by decide +kernel
theorem d_MD_offer_117 : decode b_MD_offer 117 = .ok (.iload_n 2, 1) := by decide +kernel
theorem d_MD_offer_118 : decode b_MD_offer 118 = .ok (.if_icmp .lt 16, 3) := by decide +kernel
theorem d_MD_offer_121 : decode b_MD_offer 121 = .ok (.iload 5, 2) := by decide +kernel
theorem d_MD_offer_123 : decode b_MD_offer 123 = .ok (.iconst 1, 1) := by decide +kernel
theorem d_MD_offer_124 : decode b_MD_offer 124 = .ok (.if_icmp .ne 13, 3) := by decide +kernel
theorem d_MD_offer_127 : decode b_MD_offer 127 = .ok (.aload_n 0, 1) := by decide +kernel
theorem d_MD_offer_128 : decode b_MD_offer 128 = .ok (.getfield 177, 3) := by decide +kernel
theorem d_MD_offer_131 : decode b_MD_offer 131 = .ok (.ifCond .ne 6, 3) := by decide +kernel
theorem d_MD_offer_134 : decode b_MD_offer 134 = .ok (.bipush 25, 2) := by decide +kernel
theorem d_MD_offer_136 : decode b_MD_offer 136 = .ok (.ireturn, 1) := by decide +kernel
theorem d_MD_offer_137 : decode b_MD_offer 137 = .ok (.iload 5, 2) := by decide +kernel
theorem d_MD_offer_139 : decode b_MD_offer 139 = .ok (.ifCond .ne 26, 3) := by decide +kernel
theorem d_MD_offer_142 : decode b_MD_offer 142 = .ok (.aload_n 0, 1) := by decide +kernel
theorem d_MD_offer_143 : decode b_MD_offer 143 = .ok (.getfield 177, 3) := by decide +kernel
theorem d_MD_offer_146 : decode b_MD_offer 146 = .ok (.iload_n 2, 1) := by decide +kernel
theorem d_MD_offer_147 : decode b_MD_offer 147 = .ok (.if_icmp .ge 18, 3) := by decide +kernel
theorem d_MD_offer_150 : decode b_MD_offer 150 = .ok (.aload_n 0, 1) := by decide +kernel
theorem d_MD_offer_151 : decode b_MD_offer 151 = .ok (.getfield 180, 3) := by decide +kernel
theorem d_MD_offer_154 : decode b_MD_offer 154 = .ok (.iload 4, 2) := by decide +kernel
theorem d_MD_offer_156 : decode b_MD_offer 156 = .ok (.i2l, 1) := by decide +kernel
theorem d_MD_offer_157 : decode b_MD_offer 157 = .ok (.lcmp, 1) := by decide +kernel
theorem d_MD_offer_158 : decode b_MD_offer 158 = .ok (.ifCond .ge 7, 3) := by decide +kernel
theorem d_MD_offer_161 : decode b_MD_offer 161 = .ok (.iconst 1, 1) := by decide +kernel
theorem d_MD_offer_162 : decode b_MD_offer 162 = .ok (.goto 4, 3) := by decide +kernel
theorem d_MD_offer_165 : decode b_MD_offer 165 = .ok (.iconst 0, 1) := by decide +kernel
theorem d_MD_offer_166 : decode b_MD_offer 166 = .ok (.istore 8, 2) := by decide +kernel
theorem d_MD_offer_168 : decode b_MD_offer 168 = .ok (.iload 8, 2) := by decide +kernel
theorem d_MD_offer_170 : decode b_MD_offer 170 = .ok (.ifCond .eq 96, 3) := by decide +kernel
theorem d_MD_offer_173 : decode b_MD_offer 173 = .ok (.aload_n 0, 1) := by decide +kernel
theorem d_MD_offer_174 : decode b_MD_offer 174 = .ok (.getfield 177, 3) := by decide +kernel
theorem d_MD_offer_177 : decode b_MD_offer 177 = .ok (.ifCond .ne 89, 3) := by decide +kernel
theorem d_MD_offer_180 : decode b_MD_offer 180 = .ok (.aload_n 0, 1) := by decide +kernel
theorem d_MD_offer_181 : decode b_MD_offer 181 = .ok (.getfield 110, 3) := by decide +kernel
theorem d_MD_offer_184 : decode b_MD_offer 184 = .ok (.istore 9, 2) := by decide +kernel
theorem d_MD_offer_186 : decode b_MD_offer 186 = .ok (.aload_n 0, 1) := by decide +kernel
theorem d_MD_offer_187 : decode b_MD_offer 187 = .ok (.aload_n 0, 1) := by decide +kernel
theorem d_MD_offer_188 : decode b_MD_offer 188 = .ok (.getfield 68, 3) := by decide +kernel
theorem d_MD_offer_191 : decode b_MD_offer 191 = .ok (.invokevirtual 116, 3) := by decide +kernel
theorem d_MD_offer_194 : decode b_MD_offer 194 = .ok (.istore 10, 2) := by decide +kernel
theorem d_MD_offer_196 : decode b_MD_offer 196 = .ok (.iconst 0, 1) := by decide +kernel
theorem d_MD_offer_197 : decode b_MD_offer 197 = .ok (.istore 11, 2) := by decide +kernel
theorem d_MD_offer_199 : decode b_MD_offer 199 = .ok (.iload 11, 2) := by decide +kernel
theorem d_MD_offer_201 : decode b_MD_offer 201 = .ok (.aload_n 0, 1) := by decide +kernel
theorem d_MD_offer_202 : decode b_MD_offer 202 = .ok (.getfield 110, 3) := by decide +kernel
theorem d_MD_offer_205 : decode b_MD_offer 205 = .ok (.if_icmp .ge 29, 3) := by decide +kernel
theorem d_MD_offer_208 : decode b_MD_offer 208 = .ok (.iload 9, 2) := by decide +kernel
theorem d_MD_offer_210 : decode b_MD_offer 210 = .ok (.aload_n 0, 1) := by decide +kernel
theorem d_MD_offer_211 : decode b_MD_offer 211 = .ok (.getfield 85, 3) := by decide +kernel
theorem d_MD_offer_214 : decode b_MD_offer 214 = .ok (.iload 11, 2) := by decide +kernel
theorem d_MD_offer_216 : decode b_MD_offer 216 = .ok (.baload, 1) := by decide +kernel
theorem d_MD_offer_217 : decode b_MD_offer 217 = .ok (.ifCond .eq 7, 3) := by decide +kernel
theorem d_MD_offer_220 : decode b_MD_offer 220 = .ok (.iconst 1, 1) := by decide +kernel
theorem d_MD_offer_221 : decode b_MD_offer 221 = .ok (.goto 4, 3) := by decide +kernel
theorem d_MD_offer_224 : decode b_MD_offer 224 = .ok (.iconst 0, 1) := by decide +kernel
theorem d_MD_offer_225 : decode b_MD_offer 225 = .ok (.isub, 1) := by decide +kernel
theorem d_MD_offer_226 : decode b_MD_offer 226 = .ok (.istore 9, 2) := by decide +kernel
theorem d_MD_offer_228 : decode b_MD_offer 228 = .ok (.iinc 11 1, 3) := by decide +kernel
theorem d_MD_offer_231 : decode b_MD_offer 231 = .ok (.goto (-32), 3) := by decide +kernel
theorem d_MD_offer_234 : decode b_MD_offer 234 = .ok (.iload 9, 2) := by decide +kernel
theorem d_MD_offer_236 : decode b_MD_offer 236 = .ok (.bipush 12, 2) := by decide +kernel
theorem d_MD_offer_238 : decode b_MD_offer 238 = .ok (.if_icmp .ge 25, 3) := by decide +kernel
theorem d_MD_offer_241 : decode b_MD_offer 241 = .ok (.aload_n 0, 1) := by decide +kernel
theorem d_MD_offer_242 : decode b_MD_offer 242 = .ok (.getfield 13, 3) := by decide +kernel
theorem d_MD_offer_245 : decode b_MD_offer 245 = .ok (.aload_n 0, 1) := by decide +kernel
theorem d_MD_offer_246 : decode b_MD_offer 246 = .ok (.getfield 68, 3) := by decide +kernel
theorem d_MD_offer_249 : decode b_MD_offer 249 = .ok (.iaload, 1) := by decide +kernel
theorem d_MD_offer_250 : decode b_MD_offer 250 = .ok (.bipush 100, 2) := by decide +kernel
theorem d_MD_offer_252 : decode b_MD_offer 252 = .ok (.bipush 20, 2) := by decide +kernel
theorem d_MD_offer_254 : decode b_MD_offer 254 = .ok (.iload 10, 2) := by decide +kernel
theorem d_MD_offer_256 : decode b_MD_offer 256 = .ok (.iconst 1, 1) := by decide +kernel
theorem d_MD_offer_257 : decode b_MD_offer 257 = .ok (.iadd, 1) := by decide +kernel
theorem d_MD_offer_258 : decode b_MD_offer 258 = .ok (.imul, 1) := by decide +kernel
theorem d_MD_offer_259 : decode b_MD_offer 259 = .ok (.iadd, 1) := by decide +kernel
theorem d_MD_offer_260 : decode b_MD_offer 260 = .ok (.if_icmp .ge 6, 3) := by decide +kernel
theorem d_MD_offer_263 : decode b_MD_offer 263 = .ok (.bipush 23, 2) := by decide +kernel
theorem d_MD_offer_265 : decode b_MD_offer 265 = .ok (.ireturn, 1) := by decide +kernel
theorem d_MD_offer_266 : decode b_MD_offer 266 = .ok (.aload_n 0, 1) := by decide +kernel
theorem d_MD_offer_267 : decode b_MD_offer 267 = .ok (.iload_n 3, 1) := by decide +kernel
theorem d_MD_offer_268 : decode b_MD_offer 268 = .ok (.iload_n 1, 1) := by decide +kernel
theorem d_MD_offer_269 : decode b_MD_offer 269 = .ok (.invokevirtual 212, 3) := by decide +kernel
theorem d_MD_offer_272 : decode b_MD_offer 272 = .ok (.aload_n 0, 1) := by decide +kernel
theorem d_MD_offer_273 : decode b_MD_offer 273 = .ok (.aload_n 0, 1) := by decide +kernel
theorem d_MD_offer_274 : decode b_MD_offer 274 = .ok (.getfield 68, 3) := by decide +kernel
theorem d_MD_offer_277 : decode b_MD_offer 277 = .ok (.iload_n 3, 1) := by decide +kernel
theorem d_MD_offer_278 : decode b_MD_offer 278 = .ok (.aload_n 0, 1) := by decide +kernel
theorem d_MD_offer_279 : decode b_MD_offer 279 = .ok (.getfield 173, 3) := by decide +kernel
theorem d_MD_offer_282 : decode b_MD_offer 282 = .ok (.lneg, 1) := by decide +kernel
theorem d_MD_offer_283 : decode b_MD_offer 283 = .ok (.invokevirtual 194, 3) := by decide +kernel
theorem d_MD_offer_286 : decode b_MD_offer 286 = .ok (.aload_n 0, 1) := by decide +kernel
theorem d_MD_offer_287 : decode b_MD_offer 287 = .ok (.aload_n 0, 1) := by decide +kernel
theorem d_MD_offer_288 : decode b_MD_offer 288 = .ok (.getfield 68, 3) := by decide +kernel
theorem d_MD_offer_291 : decode b_MD_offer 291 = .ok (.iload_n 1, 1) := by decide +kernel
theorem d_MD_offer_292 : decode b_MD_offer 292 = .ok (.aload_n 0, 1) := by decide +kernel
theorem d_MD_offer_293 : decode b_MD_offer 293 = .ok (.getfield 177, 3) := by decide +kernel
theorem d_MD_offer_296 : decode b_MD_offer 296 = .ok (.i2l, 1) := by decide +kernel
theorem d_MD_offer_297 : decode b_MD_offer 297 = .ok (.invokevirtual 194, 3) := by decide +kernel
theorem d_MD_offer_300 : decode b_MD_offer 300 = .ok (.iload 8, 2) := by decide +kernel
theorem d_MD_offer_302 : decode b_MD_offer 302 = .ok (.ifCond .eq 55, 3) := by decide +kernel
theorem d_MD_offer_305 : decode b_MD_offer 305 = .ok (.aload_n 0, 1) := by decide +kernel
theorem d_MD_offer_306 : decode b_MD_offer 306 = .ok (.getfield 110, 3) := by decide +kernel
theorem d_MD_offer_309 : decode b_MD_offer 309 = .ok (.bipush 12, 2) := by decide +kernel
theorem d_MD_offer_311 : decode b_MD_offer 311 = .ok (.if_icmp .ge 46, 3) := by decide +kernel
theorem d_MD_offer_314 : decode b_MD_offer 314 = .ok (.aload_n 0, 1) := by decide +kernel
theorem d_MD_offer_315 : decode b_MD_offer 315 = .ok (.getfield 13, 3) := by decide +kernel
theorem d_MD_offer_318 : decode b_MD_offer 318 = .ok (.aload_n 0, 1) := by decide +kernel
theorem d_MD_offer_319 : decode b_MD_offer 319 = .ok (.getfield 68, 3) := by decide +kernel
theorem d_MD_offer_322 : decode b_MD_offer 322 = .ok (.iaload, 1) := by decide +kernel
theorem d_MD_offer_323 : decode b_MD_offer 323 = .ok (.aload_n 0, 1) := by decide +kernel
theorem d_MD_offer_324 : decode b_MD_offer 324 = .ok (.aload_n 0, 1) := by decide +kernel
theorem d_MD_offer_325 : decode b_MD_offer 325 = .ok (.getfield 68, 3) := by decide +kernel
theorem d_MD_offer_328 : decode b_MD_offer 328 = .ok (.invokevirtual 120, 3) := by decide +kernel
theorem d_MD_offer_331 : decode b_MD_offer 331 = .ok (.bipush 20, 2) := by decide +kernel
theorem d_MD_offer_333 : decode b_MD_offer 333 = .ok (.iadd, 1) := by decide +kernel
theorem d_MD_offer_334 : decode b_MD_offer 334 = .ok (.if_icmp .lt 23, 3) := by decide +kernel
theorem d_MD_offer_337 : decode b_MD_offer 337 = .ok (.aload_n 0, 1) := by decide +kernel
theorem d_MD_offer_338 : decode b_MD_offer 338 = .ok (.iload_n 1, 1) := by decide +kernel
theorem d_MD_offer_339 : decode b_MD_offer 339 = .ok (.iload_n 2, 1) := by decide +kernel
theorem d_MD_offer_340 : decode b_MD_offer 340 = .ok (.aload_n 0, 1) := by decide +kernel
theorem d_MD_offer_341 : decode b_MD_offer 341 = .ok (.getfield 177, 3) := by decide +kernel
theorem d_MD_offer_344 : decode b_MD_offer 344 = .ok (.isub, 1) := by decide +kernel
theorem d_MD_offer_345 : decode b_MD_offer 345 = .ok (.iload_n 3, 1) := by decide +kernel
theorem d_MD_offer_346 : decode b_MD_offer 346 = .ok (.iload 4, 2) := by decide +kernel
theorem d_MD_offer_348 : decode b_MD_offer 348 = .ok (.aload_n 0, 1) := by decide +kernel
theorem d_MD_offer_349 : decode b_MD_offer 349 = .ok (.getfield 180, 3) := by decide +kernel
theorem d_MD_offer_352 : decode b_MD_offer 352 = .ok (.l2i, 1) := by decide +kernel
theorem d_MD_offer_353 : decode b_MD_offer 353 = .ok (.isub, 1) := by decide +kernel
theorem d_MD_offer_354 : decode b_MD_offer 354 = .ok (.invokevirtual 215, 3) := by decide +kernel
theorem d_MD_offer_357 : decode b_MD_offer 357 = .ok (.iconst 0, 1) := by decide +kernel
theorem d_MD_offer_358 : decode b_MD_offer 358 = .ok (.ireturn, 1) := by decide +kernel
def MD_offer_c266 (x1 : Int32) (x2 : Int32) (x3 : Int32) (x4 : Int32) (x8 : Int32) (σ : ST) : Option (Int32 × ST) :=
  bd1 (MD_carryOut x3 x1 σ) fun σ269 =>
  bd1 (MD_change (gI σ269 25) x3 (-(gL σ269 1)) σ269) fun σ283 =>
  bd1 (MD_change (gI σ283 25) x1 ((gI σ283 32).toInt64) σ283) fun σ297 =>
  if x8 = 0 then (some ((0 : Int32), σ297))
  else (if (12 : Int32) ≤ (gI σ297 21) then (some ((0 : Int32), σ297))
  else (if (gI σ297 25) < 0 ∨ 6 ≤ (gI σ297 25).toNatClampNeg then none else
  bd1 (MD_reserve (gI σ297 25) σ297) fun r328 =>
  if (gA σ297 9 (gI σ297 25).toNatClampNeg) < (r328 + (20 : Int32)) then (some ((0 : Int32), σ297))
  else (bd1 (MD_place x1 (x2 - (gI σ297 32)) x3 (x4 - (gL σ297 0).toInt32) σ297) fun σ354 =>
  some ((0 : Int32), σ354))))
set_option maxRecDepth 100000 in
set_option maxHeartbeats 4000000 in
theorem w_MD_offer_c266 {X : JX} (C : JC X l D (ttf cs) eE b_MD_offer "TollLedgerModel" 12 (Cond.code y_MD_offer b_MD_offer 12 r_MD_offer :: BIG) 6 153 0 0) {res : Int32 × ST} (Rt : JR X (wfm ad cs) 0 0 (PI res.1 res.2) r_MD_offer "offer")  (x1 : Int32) (x2 : Int32) (x3 : Int32) (x4 : Int32) (x8 : Int32) (σ : ST) (hf : MD_offer_c266 x1 x2 x3 x4 x8 σ = some res) : J (wfm ad cs) X 12 0 0 σ 266 [(0, .ref (ad 18)), (1, .int x1), (2, .int x2), (3, .int x3), (4, .int x4), (8, .int x8)] [] := by
  unfold MD_offer_c266 at hf
  refine j_aload_n C 0 rfl rfl d_MD_offer_266 ?_
  refine j_iload_n C 3 rfl rfl d_MD_offer_267 ?_
  refine j_iload_n C 1 rfl rfl d_MD_offer_268 ?_
  obtain ⟨σ269, h269, hf⟩ := o_b1 hf
  refine j_callV (ci := 10) (Cn := "TollLedgerModel") (T := T_MD) (N := 39) C [.int x3, .int x1] [] (m_MD_carryOut _ _ _ _ _ x3 x1 σ h269) (gdV wd_5_1 wd_5_3 wp_31 wd_1_11 wc_MD_carryOut) hy_MD_carryOut rfl ⟨18, rfl⟩ rfl rfl (by decide) (by decide) (by decide) (by decide) (Nat.le_of_ble_eq_true rfl) d_MD_offer_269 (j_kV (σ1 := σ269) ?_)
  refine j_aload_n C 0 rfl rfl d_MD_offer_272 ?_
  refine j_aload_n C 0 rfl rfl d_MD_offer_273 ?_
  refine g_MD_me C (List.mem_cons_of_mem _ wd_4_42) d_MD_offer_274 ?_
  refine j_iload_n C 3 rfl rfl d_MD_offer_277 ?_
  refine j_aload_n C 0 rfl rfl d_MD_offer_278 ?_
  refine g_MD_costSum C (List.mem_cons_of_mem _ wd_4_56) d_MD_offer_279 ?_
  refine j_lneg C d_MD_offer_282 ?_
  obtain ⟨σ283, h283, hf⟩ := o_b1 hf
  refine j_callV (ci := 10) (Cn := "TollLedgerModel") (T := T_MD) (N := 39) C [.int (gI σ269 25), .int x3, .long (-(gL σ269 1))] [] (m_MD_change _ _ _ _ _ (gI σ269 25) x3 (-(gL σ269 1)) σ269 h283) (gdV wd_5_5 wd_5_7 wp_32 wd_1_11 wc_MD_change) hy_MD_change rfl ⟨18, rfl⟩ rfl rfl (by decide) (by decide) (by decide) (by decide) (Nat.le_of_ble_eq_true rfl) d_MD_offer_283 (j_kV (σ1 := σ283) ?_)
  refine j_aload_n C 0 rfl rfl d_MD_offer_286 ?_
  refine j_aload_n C 0 rfl rfl d_MD_offer_287 ?_
  refine g_MD_me C (List.mem_cons_of_mem _ wd_4_42) d_MD_offer_288 ?_
  refine j_iload_n C 1 rfl rfl d_MD_offer_291 ?_
  refine j_aload_n C 0 rfl rfl d_MD_offer_292 ?_
  refine g_MD_got C (List.mem_cons_of_mem _ wd_4_54) d_MD_offer_293 ?_
  refine j_i2l C d_MD_offer_296 ?_
  obtain ⟨σ297, h297, hf⟩ := o_b1 hf
  refine j_callV (ci := 10) (Cn := "TollLedgerModel") (T := T_MD) (N := 39) C [.int (gI σ283 25), .int x1, .long (gI σ283 32).toInt64] [] (m_MD_change _ _ _ _ _ (gI σ283 25) x1 ((gI σ283 32).toInt64) σ283 h297) (gdV wd_5_5 wd_5_7 wp_32 wd_1_11 wc_MD_change) hy_MD_change rfl ⟨18, rfl⟩ rfl rfl (by decide) (by decide) (by decide) (by decide) (Nat.le_of_ble_eq_true rfl) d_MD_offer_297 (j_kV (σ1 := σ297) ?_)
  refine j_iload C 5 rfl d_MD_offer_300 ?_
  refine j_if_eq C d_MD_offer_302 rfl (fun c302 => ?_) (fun c302 => ?_)
  · have hf := o_it c302 hf
    refine j_iconst C (v := 0) (by decide) d_MD_offer_357 ?_
    have hf := Option.some.inj hf
    subst hf
    exact j_iret C Rt (Nat.zero_le _) (Nat.zero_le _) d_MD_offer_358 ⟨rfl, rfl⟩
  · have hf := o_if c302 hf
    refine j_aload_n C 0 rfl rfl d_MD_offer_305 ?_
    refine g_MD_offers C (List.mem_cons_of_mem _ wd_4_26) d_MD_offer_306 ?_
    refine j_bipush C (v := 12) (by decide) d_MD_offer_309 ?_
    refine j_icmp_ge C d_MD_offer_311 rfl (fun c311 => ?_) (fun c311 => ?_)
    · have hf := o_it c311 hf
      refine j_iconst C (v := 0) (by decide) d_MD_offer_357 ?_
      have hf := Option.some.inj hf
      subst hf
      exact j_iret C Rt (Nat.zero_le _) (Nat.zero_le _) d_MD_offer_358 ⟨rfl, rfl⟩
    · have hf := o_if c311 hf
      refine j_aload_n C 0 rfl rfl d_MD_offer_314 ?_
      refine g_MD_coins C (List.mem_cons_of_mem _ wd_4_20) d_MD_offer_315 ?_
      refine j_aload_n C 0 rfl rfl d_MD_offer_318 ?_
      refine g_MD_me C (List.mem_cons_of_mem _ wd_4_42) d_MD_offer_319 ?_
      obtain ⟨g322, hf⟩ := o_gn hf
      refine la_m_coins C g322 d_MD_offer_322 ?_
      refine j_aload_n C 0 rfl rfl d_MD_offer_323 ?_
      refine j_aload_n C 0 rfl rfl d_MD_offer_324 ?_
      refine g_MD_me C (List.mem_cons_of_mem _ wd_4_42) d_MD_offer_325 ?_
      obtain ⟨r328, h328, hf⟩ := o_b1 hf
      refine j_callV (ci := 10) (Cn := "TollLedgerModel") (T := T_MD) (N := 39) C [.int (gI σ297 25)] [.int (gA σ297 9 (gI σ297 25).toNatClampNeg)] (m_MD_reserve _ _ _ _ _ (gI σ297 25) σ297 h328) (gdV wd_4_168 wd_4_170 wp_19 wd_1_11 wc_MD_reserve) hy_MD_reserve rfl ⟨18, rfl⟩ rfl rfl (by decide) (by decide) (by decide) (by decide) (Nat.le_of_ble_eq_true rfl) d_MD_offer_328 (j_kI (r := r328) (σ1 := σ297) ?_)
      refine j_bipush C (v := 20) (by decide) d_MD_offer_331 ?_
      refine j_iadd C d_MD_offer_333 ?_
      refine j_icmp_lt C d_MD_offer_334 rfl (fun c334 => ?_) (fun c334 => ?_)
      · have hf := o_it c334 hf
        refine j_iconst C (v := 0) (by decide) d_MD_offer_357 ?_
        have hf := Option.some.inj hf
        subst hf
        exact j_iret C Rt (Nat.zero_le _) (Nat.zero_le _) d_MD_offer_358 ⟨rfl, rfl⟩
      · have hf := o_if c334 hf
        refine j_aload_n C 0 rfl rfl d_MD_offer_337 ?_
        refine j_iload_n C 1 rfl rfl d_MD_offer_338 ?_
        refine j_iload_n C 2 rfl rfl d_MD_offer_339 ?_
        refine j_aload_n C 0 rfl rfl d_MD_offer_340 ?_
        refine g_MD_got C (List.mem_cons_of_mem _ wd_4_54) d_MD_offer_341 ?_
        refine j_isub C d_MD_offer_344 ?_
        refine j_iload_n C 3 rfl rfl d_MD_offer_345 ?_
        refine j_iload C 4 rfl d_MD_offer_346 ?_
        refine j_aload_n C 0 rfl rfl d_MD_offer_348 ?_
        refine g_MD_priceSum C (List.mem_cons_of_mem _ wd_4_55) d_MD_offer_349 ?_
        refine j_l2i C d_MD_offer_352 ?_
        refine j_isub C d_MD_offer_353 ?_
        obtain ⟨σ354, h354, hf⟩ := o_b1 hf
        refine j_callV (ci := 10) (Cn := "TollLedgerModel") (T := T_MD) (N := 39) C [.int x1, .int (x2 - (gI σ297 32)), .int x3, .int (x4 - (gL σ297 0).toInt32)] [] (m_MD_place _ _ _ _ _ x1 (x2 - (gI σ297 32)) x3 (x4 - (gL σ297 0).toInt32) σ297 h354) (gdV wd_5_17 wd_5_19 wp_34 wd_1_11 wc_MD_place) hy_MD_place rfl ⟨18, rfl⟩ rfl rfl (by decide) (by decide) (by decide) (by decide) (Nat.le_of_ble_eq_true rfl) d_MD_offer_354 (j_kV (σ1 := σ354) ?_)
        refine j_iconst C (v := 0) (by decide) d_MD_offer_357 ?_
        have hf := Option.some.inj hf
        subst hf
        exact j_iret C Rt (Nat.zero_le _) (Nat.zero_le _) d_MD_offer_358 ⟨rfl, rfl⟩
def MD_offer_c225 (kb199 : Int32 → Int32 → Int32 → Int32 → Int32 → Int32 → Int32 → Int32 → ST → Option (Int32 × ST)) (x1 : Int32) (x2 : Int32) (x3 : Int32) (x4 : Int32) (x8 : Int32) (x10 : Int32) (x11 : Int32) (s0 : Int32) (s1 : Int32) (σ : ST) : Option (Int32 × ST) :=
  nmI (s0 - s1) fun x9_226 =>
  kb199 x1 x2 x3 x4 x8 x9_226 x10 (x11 + 1) σ
set_option maxRecDepth 100000 in
set_option maxHeartbeats 4000000 in
theorem w_MD_offer_c225 {X : JX} (C : JC X l D (ttf cs) eE b_MD_offer "TollLedgerModel" 12 (Cond.code y_MD_offer b_MD_offer 12 r_MD_offer :: BIG) 6 153 0 0) {res : Int32 × ST} (Rt : JR X (wfm ad cs) 0 0 (PI res.1 res.2) r_MD_offer "offer") {kb199 : Int32 → Int32 → Int32 → Int32 → Int32 → Int32 → Int32 → Int32 → ST → Option (Int32 × ST)} (hk199 : ∀ (x1 : Int32) (x2 : Int32) (x3 : Int32) (x4 : Int32) (x8 : Int32) (x9 : Int32) (x10 : Int32) (x11 : Int32) (σ : ST), kb199 x1 x2 x3 x4 x8 x9 x10 x11 σ = some res → J (wfm ad cs) X 12 0 0 σ 199 [(0, .ref (ad 18)), (1, .int x1), (2, .int x2), (3, .int x3), (4, .int x4), (8, .int x8), (9, .int x9), (10, .int x10), (11, .int x11)] []) (x1 : Int32) (x2 : Int32) (x3 : Int32) (x4 : Int32) (x8 : Int32) (x10 : Int32) (x11 : Int32) (s0 : Int32) (s1 : Int32) (σ : ST) (hf : MD_offer_c225 kb199 x1 x2 x3 x4 x8 x10 x11 s0 s1 σ = some res) : J (wfm ad cs) X 12 0 0 σ 225 [(0, .ref (ad 18)), (1, .int x1), (2, .int x2), (3, .int x3), (4, .int x4), (8, .int x8), (10, .int x10), (11, .int x11)] [.int s1, .int s0] := by
  unfold MD_offer_c225 at hf
  refine j_isub C d_MD_offer_225 ?_
  obtain ⟨x9_226, ex9_226, hf⟩ := o_nmI hf
  refine j_topI ex9_226 ?_
  refine j_istore C (by decide) (loc' := [(9, .int x9_226), (0, .ref (ad 18)), (1, .int x1), (2, .int x2), (3, .int x3), (4, .int x4), (8, .int x8), (10, .int x10), (11, .int x11)]) rfl d_MD_offer_226 ?_
  refine j_iinc C 8 rfl (v := (x11 + 1)) (inc_p1 _) (by decide) (loc' := [(11, .int (x11 + 1)), (9, .int x9_226), (0, .ref (ad 18)), (1, .int x1), (2, .int x2), (3, .int x3), (4, .int x4), (8, .int x8), (10, .int x10)]) rfl d_MD_offer_228 ?_
  refine j_goto C d_MD_offer_231 rfl ?_
  refine j_sub [2, 3, 4, 5, 6, 7, 1, 8, 0] rfl ?_
  exact hk199 x1 x2 x3 x4 x8 x9_226 x10 (x11 + 1) σ hf
def MD_offer_b199 (kb199 : Int32 → Int32 → Int32 → Int32 → Int32 → Int32 → Int32 → Int32 → ST → Option (Int32 × ST)) (x1 : Int32) (x2 : Int32) (x3 : Int32) (x4 : Int32) (x8 : Int32) (x9 : Int32) (x10 : Int32) (x11 : Int32) (σ : ST) : Option (Int32 × ST) :=
  if (gI σ 21) ≤ x11 then (if (12 : Int32) ≤ x9 then (some ((23 : Int32), σ))
  else (if (gI σ 25) < 0 ∨ 6 ≤ (gI σ 25).toNatClampNeg then none else
  if ((100 : Int32) + ((20 : Int32) * (x10 + (1 : Int32)))) ≤ (gA σ 9 (gI σ 25).toNatClampNeg) then (MD_offer_c266 x1 x2 x3 x4 x8 σ)
  else (some ((23 : Int32), σ))))
  else (if x11 < 0 ∨ 12 ≤ x11.toNatClampNeg then none else
  if (gA σ 30 x11.toNatClampNeg) = 0 then (MD_offer_c225 kb199 x1 x2 x3 x4 x8 x10 x11 x9 (0 : Int32) σ)
  else (MD_offer_c225 kb199 x1 x2 x3 x4 x8 x10 x11 x9 (1 : Int32) σ))
set_option maxRecDepth 100000 in
set_option maxHeartbeats 4000000 in
theorem w_MD_offer_b199 {X : JX} (C : JC X l D (ttf cs) eE b_MD_offer "TollLedgerModel" 12 (Cond.code y_MD_offer b_MD_offer 12 r_MD_offer :: BIG) 6 153 0 0) {res : Int32 × ST} (Rt : JR X (wfm ad cs) 0 0 (PI res.1 res.2) r_MD_offer "offer") {kb199 : Int32 → Int32 → Int32 → Int32 → Int32 → Int32 → Int32 → Int32 → ST → Option (Int32 × ST)} (hk199 : ∀ (x1 : Int32) (x2 : Int32) (x3 : Int32) (x4 : Int32) (x8 : Int32) (x9 : Int32) (x10 : Int32) (x11 : Int32) (σ : ST), kb199 x1 x2 x3 x4 x8 x9 x10 x11 σ = some res → J (wfm ad cs) X 12 0 0 σ 199 [(0, .ref (ad 18)), (1, .int x1), (2, .int x2), (3, .int x3), (4, .int x4), (8, .int x8), (9, .int x9), (10, .int x10), (11, .int x11)] []) (x1 : Int32) (x2 : Int32) (x3 : Int32) (x4 : Int32) (x8 : Int32) (x9 : Int32) (x10 : Int32) (x11 : Int32) (σ : ST) (hf : MD_offer_b199 kb199 x1 x2 x3 x4 x8 x9 x10 x11 σ = some res) : J (wfm ad cs) X 12 0 0 σ 199 [(0, .ref (ad 18)), (1, .int x1), (2, .int x2), (3, .int x3), (4, .int x4), (8, .int x8), (9, .int x9), (10, .int x10), (11, .int x11)] [] := by
  unfold MD_offer_b199 at hf
  refine j_iload C 8 rfl d_MD_offer_199 ?_
  refine j_aload_n C 0 rfl rfl d_MD_offer_201 ?_
  refine g_MD_offers C (List.mem_cons_of_mem _ wd_4_26) d_MD_offer_202 ?_
  refine j_icmp_ge C d_MD_offer_205 rfl (fun c205 => ?_) (fun c205 => ?_)
  · have hf := o_it c205 hf
    refine j_iload C 6 rfl d_MD_offer_234 ?_
    refine j_bipush C (v := 12) (by decide) d_MD_offer_236 ?_
    refine j_icmp_ge C d_MD_offer_238 rfl (fun c238 => ?_) (fun c238 => ?_)
    · have hf := o_it c238 hf
      refine j_bipush C (v := 23) (by decide) d_MD_offer_263 ?_
      have hf := Option.some.inj hf
      subst hf
      exact j_iret C Rt (Nat.zero_le _) (Nat.zero_le _) d_MD_offer_265 ⟨rfl, rfl⟩
    · have hf := o_if c238 hf
      refine j_aload_n C 0 rfl rfl d_MD_offer_241 ?_
      refine g_MD_coins C (List.mem_cons_of_mem _ wd_4_20) d_MD_offer_242 ?_
      refine j_aload_n C 0 rfl rfl d_MD_offer_245 ?_
      refine g_MD_me C (List.mem_cons_of_mem _ wd_4_42) d_MD_offer_246 ?_
      obtain ⟨g249, hf⟩ := o_gn hf
      refine la_m_coins C g249 d_MD_offer_249 ?_
      refine j_bipush C (v := 100) (by decide) d_MD_offer_250 ?_
      refine j_bipush C (v := 20) (by decide) d_MD_offer_252 ?_
      refine j_iload C 7 rfl d_MD_offer_254 ?_
      refine j_iconst C (v := 1) (by decide) d_MD_offer_256 ?_
      refine j_iadd C d_MD_offer_257 ?_
      refine j_imul C d_MD_offer_258 ?_
      refine j_iadd C d_MD_offer_259 ?_
      refine j_icmp_ge C d_MD_offer_260 rfl (fun c260 => ?_) (fun c260 => ?_)
      · have hf := o_it c260 hf
        refine j_sub [0, 1, 2, 3, 4, 5] rfl ?_
        exact w_MD_offer_c266 C Rt  x1 x2 x3 x4 x8 σ hf
      · have hf := o_if c260 hf
        refine j_bipush C (v := 23) (by decide) d_MD_offer_263 ?_
        have hf := Option.some.inj hf
        subst hf
        exact j_iret C Rt (Nat.zero_le _) (Nat.zero_le _) d_MD_offer_265 ⟨rfl, rfl⟩
  · have hf := o_if c205 hf
    refine j_iload C 6 rfl d_MD_offer_208 ?_
    refine j_aload_n C 0 rfl rfl d_MD_offer_210 ?_
    refine g_MD_gone C (List.mem_cons_of_mem _ wd_4_52) d_MD_offer_211 ?_
    refine j_iload C 8 rfl d_MD_offer_214 ?_
    obtain ⟨g216, hf⟩ := o_gn hf
    refine la_m_gone C g216 d_MD_offer_216 ?_
    refine j_if_eq C d_MD_offer_217 rfl (fun c217 => ?_) (fun c217 => ?_)
    · have hf := o_it c217 hf
      refine j_iconst C (v := 0) (by decide) d_MD_offer_224 ?_
      refine j_sub [0, 1, 2, 3, 4, 5, 7, 8] rfl ?_
      exact w_MD_offer_c225 C Rt hk199 x1 x2 x3 x4 x8 x10 x11 x9 (0 : Int32) σ hf
    · have hf := o_if c217 hf
      refine j_iconst C (v := 1) (by decide) d_MD_offer_220 ?_
      refine j_goto C d_MD_offer_221 rfl ?_
      refine j_sub [0, 1, 2, 3, 4, 5, 7, 8] rfl ?_
      exact w_MD_offer_c225 C Rt hk199 x1 x2 x3 x4 x8 x10 x11 x9 (1 : Int32) σ hf
def MD_offer_L199 : Nat → Int32 → Int32 → Int32 → Int32 → Int32 → Int32 → Int32 → Int32 → ST → Option (Int32 × ST)
  | 0, _, _, _, _, _, _, _, _, _ => none
  | N + 1, x1, x2, x3, x4, x8, x9, x10, x11, σ => MD_offer_b199 (fun x1 x2 x3 x4 x8 x9 x10 x11 σ => MD_offer_L199 N x1 x2 x3 x4 x8 x9 x10 x11 σ) x1 x2 x3 x4 x8 x9 x10 x11 σ
theorem w_MD_offer_L199 {X : JX} (C : JC X l D (ttf cs) eE b_MD_offer "TollLedgerModel" 12 (Cond.code y_MD_offer b_MD_offer 12 r_MD_offer :: BIG) 6 153 0 0) {res : Int32 × ST} (Rt : JR X (wfm ad cs) 0 0 (PI res.1 res.2) r_MD_offer "offer")  (N : Nat) (x1 : Int32) (x2 : Int32) (x3 : Int32) (x4 : Int32) (x8 : Int32) (x9 : Int32) (x10 : Int32) (x11 : Int32) (σ : ST) (hf : MD_offer_L199 N x1 x2 x3 x4 x8 x9 x10 x11 σ = some res) : J (wfm ad cs) X 12 0 0 σ 199 [(0, .ref (ad 18)), (1, .int x1), (2, .int x2), (3, .int x3), (4, .int x4), (8, .int x8), (9, .int x9), (10, .int x10), (11, .int x11)] [] := by
  induction N generalizing x1 x2 x3 x4 x8 x9 x10 x11 σ with
  | zero => exact nomatch hf
  | succ N ih => exact w_MD_offer_b199 C Rt  (fun x1 x2 x3 x4 x8 x9 x10 x11 σ h => ih x1 x2 x3 x4 x8 x9 x10 x11 σ h) x1 x2 x3 x4 x8 x9 x10 x11 σ hf
def MD_offer_c166 (x1 : Int32) (x2 : Int32) (x3 : Int32) (x4 : Int32) (s0 : Int32) (σ : ST) : Option (Int32 × ST) :=
  if s0 = 0 then (MD_offer_c266 x1 x2 x3 x4 s0 σ)
  else (if (gI σ 32) = 0 then (nmI (gI σ 21) fun x9_184 =>
  bd1 (MD_pieces (gI σ 25) σ) fun r191 =>
  MD_offer_L199 FU x1 x2 x3 x4 s0 x9_184 r191 (0 : Int32) σ)
  else (MD_offer_c266 x1 x2 x3 x4 s0 σ))
set_option maxRecDepth 100000 in
set_option maxHeartbeats 4000000 in
theorem w_MD_offer_c166 {X : JX} (C : JC X l D (ttf cs) eE b_MD_offer "TollLedgerModel" 12 (Cond.code y_MD_offer b_MD_offer 12 r_MD_offer :: BIG) 6 153 0 0) {res : Int32 × ST} (Rt : JR X (wfm ad cs) 0 0 (PI res.1 res.2) r_MD_offer "offer")  (x1 : Int32) (x2 : Int32) (x3 : Int32) (x4 : Int32) (s0 : Int32) (σ : ST) (hf : MD_offer_c166 x1 x2 x3 x4 s0 σ = some res) : J (wfm ad cs) X 12 0 0 σ 166 [(0, .ref (ad 18)), (1, .int x1), (2, .int x2), (3, .int x3), (4, .int x4)] [.int s0] := by
  unfold MD_offer_c166 at hf
  refine j_istore C (by decide) (loc' := [(8, .int s0), (0, .ref (ad 18)), (1, .int x1), (2, .int x2), (3, .int x3), (4, .int x4)]) rfl d_MD_offer_166 ?_
  refine j_iload C 0 rfl d_MD_offer_168 ?_
  refine j_if_eq C d_MD_offer_170 rfl (fun c170 => ?_) (fun c170 => ?_)
  · have hf := o_it c170 hf
    refine j_sub [1, 2, 3, 4, 5, 0] rfl ?_
    exact w_MD_offer_c266 C Rt  x1 x2 x3 x4 s0 σ hf
  · have hf := o_if c170 hf
    refine j_aload_n C 1 rfl rfl d_MD_offer_173 ?_
    refine g_MD_got C (List.mem_cons_of_mem _ wd_4_54) d_MD_offer_174 ?_
    refine j_if_ne C d_MD_offer_177 rfl (fun c177 => ?_) (fun c177 => ?_)
    · have hf := o_if c177 hf
      refine j_sub [1, 2, 3, 4, 5, 0] rfl ?_
      exact w_MD_offer_c266 C Rt  x1 x2 x3 x4 s0 σ hf
    · have hf := o_it c177 hf
      refine j_aload_n C 1 rfl rfl d_MD_offer_180 ?_
      refine g_MD_offers C (List.mem_cons_of_mem _ wd_4_26) d_MD_offer_181 ?_
      obtain ⟨x9_184, ex9_184, hf⟩ := o_nmI hf
      refine j_topI ex9_184 ?_
      refine j_istore C (by decide) (loc' := [(9, .int x9_184), (8, .int s0), (0, .ref (ad 18)), (1, .int x1), (2, .int x2), (3, .int x3), (4, .int x4)]) rfl d_MD_offer_184 ?_
      refine j_aload_n C 2 rfl rfl d_MD_offer_186 ?_
      refine j_aload_n C 2 rfl rfl d_MD_offer_187 ?_
      refine g_MD_me C (List.mem_cons_of_mem _ wd_4_42) d_MD_offer_188 ?_
      obtain ⟨r191, h191, hf⟩ := o_b1 hf
      refine j_callV (ci := 10) (Cn := "TollLedgerModel") (T := T_MD) (N := 39) C [.int (gI σ 25)] [] (m_MD_pieces _ _ _ _ _ (gI σ 25) σ h191) (gdV wd_4_172 wd_4_174 wp_20 wd_1_11 wc_MD_pieces) hy_MD_pieces rfl ⟨18, rfl⟩ rfl rfl (by decide) (by decide) (by decide) (by decide) (Nat.le_of_ble_eq_true rfl) d_MD_offer_191 (j_kI (r := r191) (σ1 := σ) ?_)
      refine j_istore C (by decide) (loc' := [(10, .int r191), (9, .int x9_184), (8, .int s0), (0, .ref (ad 18)), (1, .int x1), (2, .int x2), (3, .int x3), (4, .int x4)]) rfl d_MD_offer_194 ?_
      refine j_iconst C (v := 0) (by decide) d_MD_offer_196 ?_
      refine j_istore C (by decide) (loc' := [(11, .int (0 : Int32)), (10, .int r191), (9, .int x9_184), (8, .int s0), (0, .ref (ad 18)), (1, .int x1), (2, .int x2), (3, .int x3), (4, .int x4)]) rfl d_MD_offer_197 ?_
      refine j_sub [4, 5, 6, 7, 8, 3, 2, 1, 0] rfl ?_
      exact w_MD_offer_L199 C Rt  FU x1 x2 x3 x4 s0 x9_184 r191 (0 : Int32) σ hf
def MD_offer_c137 (x1 : Int32) (x2 : Int32) (x3 : Int32) (x4 : Int32) (x5 : Int32) (σ : ST) : Option (Int32 × ST) :=
  if x5 = 0 then (if x2 ≤ (gI σ 32) then (MD_offer_c166 x1 x2 x3 x4 (0 : Int32) σ)
  else (if 0 ≤ (lg_cmp (gL σ 0) x4.toInt64) then (MD_offer_c166 x1 x2 x3 x4 (0 : Int32) σ)
  else (MD_offer_c166 x1 x2 x3 x4 (1 : Int32) σ)))
  else (MD_offer_c166 x1 x2 x3 x4 (0 : Int32) σ)
set_option maxRecDepth 100000 in
set_option maxHeartbeats 4000000 in
theorem w_MD_offer_c137 {X : JX} (C : JC X l D (ttf cs) eE b_MD_offer "TollLedgerModel" 12 (Cond.code y_MD_offer b_MD_offer 12 r_MD_offer :: BIG) 6 153 0 0) {res : Int32 × ST} (Rt : JR X (wfm ad cs) 0 0 (PI res.1 res.2) r_MD_offer "offer")  (x1 : Int32) (x2 : Int32) (x3 : Int32) (x4 : Int32) (x5 : Int32) (σ : ST) (hf : MD_offer_c137 x1 x2 x3 x4 x5 σ = some res) : J (wfm ad cs) X 12 0 0 σ 137 [(0, .ref (ad 18)), (1, .int x1), (2, .int x2), (3, .int x3), (4, .int x4), (5, .int x5)] [] := by
  unfold MD_offer_c137 at hf
  refine j_iload C 5 rfl d_MD_offer_137 ?_
  refine j_if_ne C d_MD_offer_139 rfl (fun c139 => ?_) (fun c139 => ?_)
  · have hf := o_if c139 hf
    refine j_iconst C (v := 0) (by decide) d_MD_offer_165 ?_
    refine j_sub [0, 1, 2, 3, 4] rfl ?_
    exact w_MD_offer_c166 C Rt  x1 x2 x3 x4 (0 : Int32) σ hf
  · have hf := o_it c139 hf
    refine j_aload_n C 0 rfl rfl d_MD_offer_142 ?_
    refine g_MD_got C (List.mem_cons_of_mem _ wd_4_54) d_MD_offer_143 ?_
    refine j_iload_n C 2 rfl rfl d_MD_offer_146 ?_
    refine j_icmp_ge C d_MD_offer_147 rfl (fun c147 => ?_) (fun c147 => ?_)
    · have hf := o_it c147 hf
      refine j_iconst C (v := 0) (by decide) d_MD_offer_165 ?_
      refine j_sub [0, 1, 2, 3, 4] rfl ?_
      exact w_MD_offer_c166 C Rt  x1 x2 x3 x4 (0 : Int32) σ hf
    · have hf := o_if c147 hf
      refine j_aload_n C 0 rfl rfl d_MD_offer_150 ?_
      refine g_MD_priceSum C (List.mem_cons_of_mem _ wd_4_55) d_MD_offer_151 ?_
      refine j_iload C 4 rfl d_MD_offer_154 ?_
      refine j_i2l C d_MD_offer_156 ?_
      refine j_lcmp C d_MD_offer_157 ?_
      refine j_if_ge C d_MD_offer_158 rfl (fun c158 => ?_) (fun c158 => ?_)
      · have hf := o_it c158 hf
        refine j_iconst C (v := 0) (by decide) d_MD_offer_165 ?_
        refine j_sub [0, 1, 2, 3, 4] rfl ?_
        exact w_MD_offer_c166 C Rt  x1 x2 x3 x4 (0 : Int32) σ hf
      · have hf := o_if c158 hf
        refine j_iconst C (v := 1) (by decide) d_MD_offer_161 ?_
        refine j_goto C d_MD_offer_162 rfl ?_
        refine j_sub [0, 1, 2, 3, 4] rfl ?_
        exact w_MD_offer_c166 C Rt  x1 x2 x3 x4 (1 : Int32) σ hf
def MD_offer_c121 (x1 : Int32) (x2 : Int32) (x3 : Int32) (x4 : Int32) (x5 : Int32) (σ : ST) : Option (Int32 × ST) :=
  if x5 = (1 : Int32) then (if (gI σ 32) = 0 then (some ((25 : Int32), σ))
  else (MD_offer_c137 x1 x2 x3 x4 x5 σ))
  else (MD_offer_c137 x1 x2 x3 x4 x5 σ)
set_option maxRecDepth 100000 in
set_option maxHeartbeats 4000000 in
theorem w_MD_offer_c121 {X : JX} (C : JC X l D (ttf cs) eE b_MD_offer "TollLedgerModel" 12 (Cond.code y_MD_offer b_MD_offer 12 r_MD_offer :: BIG) 6 153 0 0) {res : Int32 × ST} (Rt : JR X (wfm ad cs) 0 0 (PI res.1 res.2) r_MD_offer "offer")  (x1 : Int32) (x2 : Int32) (x3 : Int32) (x4 : Int32) (x5 : Int32) (σ : ST) (hf : MD_offer_c121 x1 x2 x3 x4 x5 σ = some res) : J (wfm ad cs) X 12 0 0 σ 121 [(0, .ref (ad 18)), (1, .int x1), (2, .int x2), (3, .int x3), (4, .int x4), (5, .int x5)] [] := by
  unfold MD_offer_c121 at hf
  refine j_iload C 5 rfl d_MD_offer_121 ?_
  refine j_iconst C (v := 1) (by decide) d_MD_offer_123 ?_
  refine j_icmp_ne C d_MD_offer_124 rfl (fun c124 => ?_) (fun c124 => ?_)
  · have hf := o_if c124 hf
    exact w_MD_offer_c137 C Rt  x1 x2 x3 x4 x5 σ hf
  · have hf := o_it c124 hf
    refine j_aload_n C 0 rfl rfl d_MD_offer_127 ?_
    refine g_MD_got C (List.mem_cons_of_mem _ wd_4_54) d_MD_offer_128 ?_
    refine j_if_ne C d_MD_offer_131 rfl (fun c131 => ?_) (fun c131 => ?_)
    · have hf := o_if c131 hf
      exact w_MD_offer_c137 C Rt  x1 x2 x3 x4 x5 σ hf
    · have hf := o_it c131 hf
      refine j_bipush C (v := 25) (by decide) d_MD_offer_134 ?_
      have hf := Option.some.inj hf
      subst hf
      exact j_iret C Rt (Nat.zero_le _) (Nat.zero_le _) d_MD_offer_136 ⟨rfl, rfl⟩
def MD_offer_c60 (x1 : Int32) (x2 : Int32) (x3 : Int32) (x4 : Int32) (x5 : Int32) (s1 : Int32) (σ : ST) : Option (Int32 × ST) :=
  bd2 (MD_begin s1 σ) fun r60 σ60 =>
  if r60 = 0 then (bd1 (MD_fundsIn (gI σ60 25) x3 σ60) fun r79 =>
  if r79 = 0 then (some ((22 : Int32), σ60))
  else (bd1 (MD_take x3 x1 x2 x2.toInt64 x4.toInt64 r79.toInt64 σ60) fun σ104 =>
  if x5 = (2 : Int32) then (if (gI σ104 32) < x2 then (some ((25 : Int32), σ104))
  else (MD_offer_c121 x1 x2 x3 x4 x5 σ104))
  else (MD_offer_c121 x1 x2 x3 x4 x5 σ104)))
  else (some (r60, σ60))
set_option maxRecDepth 100000 in
set_option maxHeartbeats 4000000 in
theorem w_MD_offer_c60 {X : JX} (C : JC X l D (ttf cs) eE b_MD_offer "TollLedgerModel" 12 (Cond.code y_MD_offer b_MD_offer 12 r_MD_offer :: BIG) 6 153 0 0) {res : Int32 × ST} (Rt : JR X (wfm ad cs) 0 0 (PI res.1 res.2) r_MD_offer "offer")  (x1 : Int32) (x2 : Int32) (x3 : Int32) (x4 : Int32) (x5 : Int32) (s1 : Int32) (σ : ST) (hf : MD_offer_c60 x1 x2 x3 x4 x5 s1 σ = some res) : J (wfm ad cs) X 12 0 0 σ 60 [(0, .ref (ad 18)), (1, .int x1), (2, .int x2), (3, .int x3), (4, .int x4), (5, .int x5)] [.int s1, .ref (ad 18)] := by
  unfold MD_offer_c60 at hf
  obtain ⟨r60, σ60, h60, hf⟩ := o_b2 hf
  refine j_callV (ci := 10) (Cn := "TollLedgerModel") (T := T_MD) (N := 39) C [.int s1] [] (m_MD_begin _ _ _ _ _ s1 σ h60) (gdV wd_4_156 wd_4_158 wp_17 wd_1_11 wc_MD_begin) hy_MD_begin rfl ⟨18, rfl⟩ rfl rfl (by decide) (by decide) (by decide) (by decide) (Nat.le_of_ble_eq_true rfl) d_MD_offer_60 (j_kI (r := r60) (σ1 := σ60) ?_)
  refine j_istore C (by decide) (loc' := [(6, .int r60), (0, .ref (ad 18)), (1, .int x1), (2, .int x2), (3, .int x3), (4, .int x4), (5, .int x5)]) rfl d_MD_offer_63 ?_
  refine j_iload C 0 rfl d_MD_offer_65 ?_
  refine j_if_eq C d_MD_offer_67 rfl (fun c67 => ?_) (fun c67 => ?_)
  · have hf := o_it c67 hf
    refine j_aload_n C 1 rfl rfl d_MD_offer_73 ?_
    refine j_aload_n C 1 rfl rfl d_MD_offer_74 ?_
    refine g_MD_me C (List.mem_cons_of_mem _ wd_4_42) d_MD_offer_75 ?_
    refine j_iload_n C 4 rfl rfl d_MD_offer_78 ?_
    obtain ⟨r79, h79, hf⟩ := o_b1 hf
    refine j_callV (ci := 10) (Cn := "TollLedgerModel") (T := T_MD) (N := 39) C [.int (gI σ60 25), .int x3] [] (m_MD_fundsIn _ _ _ _ _ (gI σ60 25) x3 σ60 h79) (gdV wd_4_160 wd_4_162 wp_18 wd_1_11 wc_MD_fundsIn) hy_MD_fundsIn rfl ⟨18, rfl⟩ rfl rfl (by decide) (by decide) (by decide) (by decide) (Nat.le_of_ble_eq_true rfl) d_MD_offer_79 (j_kI (r := r79) (σ1 := σ60) ?_)
    refine j_istore C (by decide) (loc' := [(7, .int r79), (6, .int r60), (0, .ref (ad 18)), (1, .int x1), (2, .int x2), (3, .int x3), (4, .int x4), (5, .int x5)]) rfl d_MD_offer_82 ?_
    refine j_iload C 0 rfl d_MD_offer_84 ?_
    refine j_if_ne C d_MD_offer_86 rfl (fun c86 => ?_) (fun c86 => ?_)
    · have hf := o_if c86 hf
      refine j_aload_n C 2 rfl rfl d_MD_offer_92 ?_
      refine j_iload_n C 5 rfl rfl d_MD_offer_93 ?_
      refine j_iload_n C 3 rfl rfl d_MD_offer_94 ?_
      refine j_iload_n C 4 rfl rfl d_MD_offer_95 ?_
      refine j_iload_n C 4 rfl rfl d_MD_offer_96 ?_
      refine j_i2l C d_MD_offer_97 ?_
      refine j_iload C 6 rfl d_MD_offer_98 ?_
      refine j_i2l C d_MD_offer_100 ?_
      refine j_iload C 0 rfl d_MD_offer_101 ?_
      refine j_i2l C d_MD_offer_103 ?_
      obtain ⟨σ104, h104, hf⟩ := o_b1 hf
      refine j_callV (ci := 10) (Cn := "TollLedgerModel") (T := T_MD) (N := 39) C [.int x3, .int x1, .int x2, .long x2.toInt64, .long x4.toInt64, .long r79.toInt64] [] (m_MD_take _ _ _ _ _ x3 x1 x2 x2.toInt64 x4.toInt64 r79.toInt64 σ60 h104) (gdV wd_4_213 wd_4_215 wp_24 wd_1_11 wc_MD_take) hy_MD_take rfl ⟨18, rfl⟩ rfl rfl (by decide) (by decide) (by decide) (by decide) (Nat.le_of_ble_eq_true rfl) d_MD_offer_104 (j_kV (σ1 := σ104) ?_)
      refine j_iload C 7 rfl d_MD_offer_107 ?_
      refine j_iconst C (v := 2) (by decide) d_MD_offer_109 ?_
      refine j_icmp_ne C d_MD_offer_110 rfl (fun c110 => ?_) (fun c110 => ?_)
      · have hf := o_if c110 hf
        refine j_sub [2, 3, 4, 5, 6, 7] rfl ?_
        exact w_MD_offer_c121 C Rt  x1 x2 x3 x4 x5 σ104 hf
      · have hf := o_it c110 hf
        refine j_aload_n C 2 rfl rfl d_MD_offer_113 ?_
        refine g_MD_got C (List.mem_cons_of_mem _ wd_4_54) d_MD_offer_114 ?_
        refine j_iload_n C 4 rfl rfl d_MD_offer_117 ?_
        refine j_icmp_lt C d_MD_offer_118 rfl (fun c118 => ?_) (fun c118 => ?_)
        · have hf := o_it c118 hf
          refine j_bipush C (v := 25) (by decide) d_MD_offer_134 ?_
          have hf := Option.some.inj hf
          subst hf
          exact j_iret C Rt (Nat.zero_le _) (Nat.zero_le _) d_MD_offer_136 ⟨rfl, rfl⟩
        · have hf := o_if c118 hf
          refine j_sub [2, 3, 4, 5, 6, 7] rfl ?_
          exact w_MD_offer_c121 C Rt  x1 x2 x3 x4 x5 σ104 hf
    · have hf := o_it c86 hf
      refine j_bipush C (v := 22) (by decide) d_MD_offer_89 ?_
      have hf := Option.some.inj hf
      subst hf
      exact j_iret C Rt (Nat.zero_le _) (Nat.zero_le _) d_MD_offer_91 ⟨rfl, rfl⟩
  · have hf := o_if c67 hf
    refine j_iload C 0 rfl d_MD_offer_70 ?_
    have hf := Option.some.inj hf
    subst hf
    exact j_iret C Rt (Nat.zero_le _) (Nat.zero_le _) d_MD_offer_72 ⟨rfl, rfl⟩
def MD_offer (x1 : Int32) (x2 : Int32) (x3 : Int32) (x4 : Int32) (x5 : Int32) (σ : ST) : Option (Int32 × ST) :=
  bd1 (MD_isAsset x1) fun r2 =>
  if r2 = 0 then (MD_offer_c60 x1 x2 x3 x4 x5 (0 : Int32) σ)
  else (bd1 (MD_isAsset x3) fun r9 =>
  if r9 = 0 then (MD_offer_c60 x1 x2 x3 x4 x5 (0 : Int32) σ)
  else (if x1 = x3 then (MD_offer_c60 x1 x2 x3 x4 x5 (0 : Int32) σ)
  else (if x2 < (1 : Int32) then (MD_offer_c60 x1 x2 x3 x4 x5 (0 : Int32) σ)
  else (if (100000 : Int32) < x2 then (MD_offer_c60 x1 x2 x3 x4 x5 (0 : Int32) σ)
  else (if x4 < (1 : Int32) then (MD_offer_c60 x1 x2 x3 x4 x5 (0 : Int32) σ)
  else (if (100000 : Int32) < x4 then (MD_offer_c60 x1 x2 x3 x4 x5 (0 : Int32) σ)
  else (if x5 < 0 then (MD_offer_c60 x1 x2 x3 x4 x5 (0 : Int32) σ)
  else (if (2 : Int32) < x5 then (MD_offer_c60 x1 x2 x3 x4 x5 (0 : Int32) σ)
  else (MD_offer_c60 x1 x2 x3 x4 x5 (1 : Int32) σ)))))))))
set_option maxRecDepth 100000 in
set_option maxHeartbeats 4000000 in
theorem m_MD_offer (l : Launch) (D : va_G) (ad : Nat → Nat) (cs : Nat → ClassId) (eE : Nat × Nat) (x1 : Int32) (x2 : Int32) (x3 : Int32) (x4 : Int32) (x5 : Int32) (σ : ST) {res : Int32 × ST} (hf : MD_offer x1 x2 x3 x4 x5 σ = some res) : MS l y_MD_offer (Cond.code y_MD_offer b_MD_offer 12 r_MD_offer :: BIG) 6 153 0 0 (wfm ad cs) D (ttf cs) eE [.ref (ad 18), .int x1, .int x2, .int x3, .int x4, .int x5] σ (PI res.1 res.2) := by
  refine MS.of (cc := b_MD_offer) (maxL := 12) (ret := r_MD_offer) (by decide) rfl (Nat.le_of_ble_eq_true rfl) (loc := [(0, .ref (ad 18)), (1, .int x1), (2, .int x2), (3, .int x3), (4, .int x4), (5, .int x5)]) rfl (fun X C Rt => ?_)
  unfold MD_offer at hf
  refine j_aload_n C 0 rfl rfl d_MD_offer_0 ?_
  refine j_iload_n C 1 rfl rfl d_MD_offer_1 ?_
  obtain ⟨r2, h2, hf⟩ := o_b1 hf
  refine j_callS C [.int x1] [.ref (ad 18)] (m_MD_isAsset _ _ _ _ _ x1 σ h2) (gdS wd_4_149 wd_4_150 wd_1_11 wc_MD_isAsset) hy_MD_isAsset rfl rfl (by decide) (by decide) (by decide) (by decide) (Nat.le_of_ble_eq_true rfl) d_MD_offer_2 (j_kI (r := r2) (σ1 := σ) ?_)
  refine j_if_eq C d_MD_offer_5 rfl (fun c5 => ?_) (fun c5 => ?_)
  · have hf := o_it c5 hf
    refine j_iconst C (v := 0) (by decide) d_MD_offer_59 ?_
    exact w_MD_offer_c60 C Rt  x1 x2 x3 x4 x5 (0 : Int32) σ hf
  · have hf := o_if c5 hf
    refine j_iload_n C 3 rfl rfl d_MD_offer_8 ?_
    obtain ⟨r9, h9, hf⟩ := o_b1 hf
    refine j_callS C [.int x3] [.ref (ad 18)] (m_MD_isAsset _ _ _ _ _ x3 σ h9) (gdS wd_4_149 wd_4_150 wd_1_11 wc_MD_isAsset) hy_MD_isAsset rfl rfl (by decide) (by decide) (by decide) (by decide) (Nat.le_of_ble_eq_true rfl) d_MD_offer_9 (j_kI (r := r9) (σ1 := σ) ?_)
    refine j_if_eq C d_MD_offer_12 rfl (fun c12 => ?_) (fun c12 => ?_)
    · have hf := o_it c12 hf
      refine j_iconst C (v := 0) (by decide) d_MD_offer_59 ?_
      exact w_MD_offer_c60 C Rt  x1 x2 x3 x4 x5 (0 : Int32) σ hf
    · have hf := o_if c12 hf
      refine j_iload_n C 1 rfl rfl d_MD_offer_15 ?_
      refine j_iload_n C 3 rfl rfl d_MD_offer_16 ?_
      refine j_icmp_eq C d_MD_offer_17 rfl (fun c17 => ?_) (fun c17 => ?_)
      · have hf := o_it c17 hf
        refine j_iconst C (v := 0) (by decide) d_MD_offer_59 ?_
        exact w_MD_offer_c60 C Rt  x1 x2 x3 x4 x5 (0 : Int32) σ hf
      · have hf := o_if c17 hf
        refine j_iload_n C 2 rfl rfl d_MD_offer_20 ?_
        refine j_iconst C (v := 1) (by decide) d_MD_offer_21 ?_
        refine j_icmp_lt C d_MD_offer_22 rfl (fun c22 => ?_) (fun c22 => ?_)
        · have hf := o_it c22 hf
          refine j_iconst C (v := 0) (by decide) d_MD_offer_59 ?_
          exact w_MD_offer_c60 C Rt  x1 x2 x3 x4 x5 (0 : Int32) σ hf
        · have hf := o_if c22 hf
          refine j_iload_n C 2 rfl rfl d_MD_offer_25 ?_
          refine j_ldc C (v := 100000) (List.mem_cons_of_mem _ wd_4_193) d_MD_offer_26 ?_
          refine j_icmp_gt C d_MD_offer_28 rfl (fun c28 => ?_) (fun c28 => ?_)
          · have hf := o_it c28 hf
            refine j_iconst C (v := 0) (by decide) d_MD_offer_59 ?_
            exact w_MD_offer_c60 C Rt  x1 x2 x3 x4 x5 (0 : Int32) σ hf
          · have hf := o_if c28 hf
            refine j_iload C 4 rfl d_MD_offer_31 ?_
            refine j_iconst C (v := 1) (by decide) d_MD_offer_33 ?_
            refine j_icmp_lt C d_MD_offer_34 rfl (fun c34 => ?_) (fun c34 => ?_)
            · have hf := o_it c34 hf
              refine j_iconst C (v := 0) (by decide) d_MD_offer_59 ?_
              exact w_MD_offer_c60 C Rt  x1 x2 x3 x4 x5 (0 : Int32) σ hf
            · have hf := o_if c34 hf
              refine j_iload C 4 rfl d_MD_offer_37 ?_
              refine j_ldc C (v := 100000) (List.mem_cons_of_mem _ wd_4_193) d_MD_offer_39 ?_
              refine j_icmp_gt C d_MD_offer_41 rfl (fun c41 => ?_) (fun c41 => ?_)
              · have hf := o_it c41 hf
                refine j_iconst C (v := 0) (by decide) d_MD_offer_59 ?_
                exact w_MD_offer_c60 C Rt  x1 x2 x3 x4 x5 (0 : Int32) σ hf
              · have hf := o_if c41 hf
                refine j_iload C 5 rfl d_MD_offer_44 ?_
                refine j_if_lt C d_MD_offer_46 rfl (fun c46 => ?_) (fun c46 => ?_)
                · have hf := o_it c46 hf
                  refine j_iconst C (v := 0) (by decide) d_MD_offer_59 ?_
                  exact w_MD_offer_c60 C Rt  x1 x2 x3 x4 x5 (0 : Int32) σ hf
                · have hf := o_if c46 hf
                  refine j_iload C 5 rfl d_MD_offer_49 ?_
                  refine j_iconst C (v := 2) (by decide) d_MD_offer_51 ?_
                  refine j_icmp_gt C d_MD_offer_52 rfl (fun c52 => ?_) (fun c52 => ?_)
                  · have hf := o_it c52 hf
                    refine j_iconst C (v := 0) (by decide) d_MD_offer_59 ?_
                    exact w_MD_offer_c60 C Rt  x1 x2 x3 x4 x5 (0 : Int32) σ hf
                  · have hf := o_if c52 hf
                    refine j_iconst C (v := 1) (by decide) d_MD_offer_55 ?_
                    refine j_goto C d_MD_offer_56 rfl ?_
                    exact w_MD_offer_c60 C Rt  x1 x2 x3 x4 x5 (1 : Int32) σ hf
theorem d_MD_offerOf_0 : decode b_MD_offerOf 0 = .ok (.aload_n 0, 1) := by decide +kernel
theorem d_MD_offerOf_1 : decode b_MD_offerOf 1 = .ok (.iload_n 1, 1) := by decide +kernel
theorem d_MD_offerOf_2 : decode b_MD_offerOf 2 = .ok (.invokevirtual 221, 3) := by decide +kernel
theorem d_MD_offerOf_5 : decode b_MD_offerOf 5 = .ok (.istore_n 3, 1) := by decide +kernel
theorem d_MD_offerOf_6 : decode b_MD_offerOf 6 = .ok (.iload_n 3, 1) := by decide +kernel
theorem d_MD_offerOf_7 : decode b_MD_offerOf 7 = .ok (.ifCond .lt 12, 3) := by decide +kernel
theorem d_MD_offerOf_10 : decode b_MD_offerOf 10 = .ok (.iload_n 2, 1) := by decide +kernel
theorem d_MD_offerOf_11 : decode b_MD_offerOf 11 = .ok (.ifCond .lt 8, 3) := by decide +kernel
theorem d_MD_offerOf_14 : decode b_MD_offerOf 14 = .ok (.iload_n 2, 1) := by decide +kernel
theorem d_MD_offerOf_15 : decode b_MD_offerOf 15 = .ok (.iconst 2, 1) := by decide +kernel
theorem d_MD_offerOf_16 : decode b_MD_offerOf 16 = .ok (.if_icmp .le 5, 3) := by decide +kernel
theorem d_MD_offerOf_19 : decode b_MD_offerOf 19 = .ok (.iconst (-1), 1) := by decide +kernel
theorem d_MD_offerOf_20 : decode b_MD_offerOf 20 = .ok (.ireturn, 1) := by decide +kernel
theorem d_MD_offerOf_21 : decode b_MD_offerOf 21 = .ok (.iload_n 2, 1) := by decide +kernel
theorem d_MD_offerOf_22 : decode b_MD_offerOf 22 = .ok (.ifCond .ne 12, 3) := by decide +kernel
theorem d_MD_offerOf_25 : decode b_MD_offerOf 25 = .ok (.aload_n 0, 1) := by decide +kernel
theorem d_MD_offerOf_26 : decode b_MD_offerOf 26 = .ok (.getfield 44, 3) := by decide +kernel
theorem d_MD_offerOf_29 : decode b_MD_offerOf 29 = .ok (.iload_n 3, 1) := by decide +kernel
theorem d_MD_offerOf_30 : decode b_MD_offerOf 30 = .ok (.iaload, 1) := by decide +kernel
theorem d_MD_offerOf_31 : decode b_MD_offerOf 31 = .ok (.goto 23, 3) := by decide +kernel
theorem d_MD_offerOf_34 : decode b_MD_offerOf 34 = .ok (.iload_n 2, 1) := by decide +kernel
theorem d_MD_offerOf_35 : decode b_MD_offerOf 35 = .ok (.iconst 1, 1) := by decide +kernel
theorem d_MD_offerOf_36 : decode b_MD_offerOf 36 = .ok (.if_icmp .ne 12, 3) := by decide +kernel
theorem d_MD_offerOf_39 : decode b_MD_offerOf 39 = .ok (.aload_n 0, 1) := by decide +kernel
theorem d_MD_offerOf_40 : decode b_MD_offerOf 40 = .ok (.getfield 47, 3) := by decide +kernel
theorem d_MD_offerOf_43 : decode b_MD_offerOf 43 = .ok (.iload_n 3, 1) := by decide +kernel
theorem d_MD_offerOf_44 : decode b_MD_offerOf 44 = .ok (.iaload, 1) := by decide +kernel
theorem d_MD_offerOf_45 : decode b_MD_offerOf 45 = .ok (.goto 9, 3) := by decide +kernel
theorem d_MD_offerOf_48 : decode b_MD_offerOf 48 = .ok (.aload_n 0, 1) := by decide +kernel
theorem d_MD_offerOf_49 : decode b_MD_offerOf 49 = .ok (.getfield 35, 3) := by decide +kernel
theorem d_MD_offerOf_52 : decode b_MD_offerOf 52 = .ok (.iload_n 3, 1) := by decide +kernel
theorem d_MD_offerOf_53 : decode b_MD_offerOf 53 = .ok (.iaload, 1) := by decide +kernel
theorem d_MD_offerOf_54 : decode b_MD_offerOf 54 = .ok (.ireturn, 1) := by decide +kernel
def MD_offerOf (x1 : Int32) (x2 : Int32) (σ : ST) : Option (Int32) :=
  bd1 (MD_findOffer x1 σ) fun r2 =>
  if r2 < 0 then (some (-1 : Int32))
  else (if x2 < 0 then (some (-1 : Int32))
  else (if x2 ≤ (2 : Int32) then (if x2 = 0 then (if r2 < 0 ∨ 12 ≤ r2.toNatClampNeg then none else
  some (gA σ 19 r2.toNatClampNeg))
  else (if x2 = (1 : Int32) then (if r2 < 0 ∨ 12 ≤ r2.toNatClampNeg then none else
  some (gA σ 20 r2.toNatClampNeg))
  else (if r2 < 0 ∨ 12 ≤ r2.toNatClampNeg then none else
  some (gA σ 16 r2.toNatClampNeg))))
  else (some (-1 : Int32))))
set_option maxRecDepth 100000 in
set_option maxHeartbeats 4000000 in
theorem m_MD_offerOf (l : Launch) (D : va_G) (ad : Nat → Nat) (cs : Nat → ClassId) (eE : Nat × Nat) (x1 : Int32) (x2 : Int32) (σ : ST) {res : Int32} (hf : MD_offerOf x1 x2 σ = some res) : MS l y_MD_offerOf (Cond.code y_MD_offerOf b_MD_offerOf 4 r_MD_offerOf :: BIG) 1 23 0 0 (wfm ad cs) D (ttf cs) eE [.ref (ad 18), .int x1, .int x2] σ (PI res σ) := by
  refine MS.of (cc := b_MD_offerOf) (maxL := 4) (ret := r_MD_offerOf) (by decide) rfl (Nat.le_of_ble_eq_true rfl) (loc := [(0, .ref (ad 18)), (1, .int x1), (2, .int x2)]) rfl (fun X C Rt => ?_)
  unfold MD_offerOf at hf
  refine j_aload_n C 0 rfl rfl d_MD_offerOf_0 ?_
  refine j_iload_n C 1 rfl rfl d_MD_offerOf_1 ?_
  obtain ⟨r2, h2, hf⟩ := o_b1 hf
  refine j_callV (ci := 10) (Cn := "TollLedgerModel") (T := T_MD) (N := 39) C [.int x1] [] (m_MD_findOffer _ _ _ _ _ x1 σ h2) (gdV wd_5_25 wd_5_27 wp_35 wd_1_11 wc_MD_findOffer) hy_MD_findOffer rfl ⟨18, rfl⟩ rfl rfl (by decide) (by decide) (by decide) (by decide) (Nat.le_of_ble_eq_true rfl) d_MD_offerOf_2 (j_kI (r := r2) (σ1 := σ) ?_)
  refine j_istore_n C rfl (by decide) (loc' := [(3, .int r2), (0, .ref (ad 18)), (1, .int x1), (2, .int x2)]) rfl d_MD_offerOf_5 ?_
  refine j_iload_n C 0 rfl rfl d_MD_offerOf_6 ?_
  refine j_if_lt C d_MD_offerOf_7 rfl (fun c7 => ?_) (fun c7 => ?_)
  · have hf := o_it c7 hf
    refine j_iconst C (v := -1) (by decide) d_MD_offerOf_19 ?_
    have hf := Option.some.inj hf
    subst hf
    exact j_iret C Rt (Nat.zero_le _) (Nat.zero_le _) d_MD_offerOf_20 ⟨rfl, rfl⟩
  · have hf := o_if c7 hf
    refine j_iload_n C 3 rfl rfl d_MD_offerOf_10 ?_
    refine j_if_lt C d_MD_offerOf_11 rfl (fun c11 => ?_) (fun c11 => ?_)
    · have hf := o_it c11 hf
      refine j_iconst C (v := -1) (by decide) d_MD_offerOf_19 ?_
      have hf := Option.some.inj hf
      subst hf
      exact j_iret C Rt (Nat.zero_le _) (Nat.zero_le _) d_MD_offerOf_20 ⟨rfl, rfl⟩
    · have hf := o_if c11 hf
      refine j_iload_n C 3 rfl rfl d_MD_offerOf_14 ?_
      refine j_iconst C (v := 2) (by decide) d_MD_offerOf_15 ?_
      refine j_icmp_le C d_MD_offerOf_16 rfl (fun c16 => ?_) (fun c16 => ?_)
      · have hf := o_it c16 hf
        refine j_iload_n C 3 rfl rfl d_MD_offerOf_21 ?_
        refine j_if_ne C d_MD_offerOf_22 rfl (fun c22 => ?_) (fun c22 => ?_)
        · have hf := o_if c22 hf
          refine j_iload_n C 3 rfl rfl d_MD_offerOf_34 ?_
          refine j_iconst C (v := 1) (by decide) d_MD_offerOf_35 ?_
          refine j_icmp_ne C d_MD_offerOf_36 rfl (fun c36 => ?_) (fun c36 => ?_)
          · have hf := o_if c36 hf
            refine j_aload_n C 1 rfl rfl d_MD_offerOf_48 ?_
            refine g_MD_ownerOf C (List.mem_cons_of_mem _ wd_4_29) d_MD_offerOf_49 ?_
            refine j_iload_n C 0 rfl rfl d_MD_offerOf_52 ?_
            obtain ⟨g53, hf⟩ := o_gn hf
            refine la_m_ownerOf C g53 d_MD_offerOf_53 ?_
            have hf := Option.some.inj hf
            subst hf
            exact j_iret C Rt (Nat.zero_le _) (Nat.zero_le _) d_MD_offerOf_54 ⟨rfl, rfl⟩
          · have hf := o_it c36 hf
            refine j_aload_n C 1 rfl rfl d_MD_offerOf_39 ?_
            refine g_MD_gOf C (List.mem_cons_of_mem _ wd_4_33) d_MD_offerOf_40 ?_
            refine j_iload_n C 0 rfl rfl d_MD_offerOf_43 ?_
            obtain ⟨g44, hf⟩ := o_gn hf
            refine la_m_gOf C g44 d_MD_offerOf_44 ?_
            refine j_goto C d_MD_offerOf_45 rfl ?_
            have hf := Option.some.inj hf
            subst hf
            exact j_iret C Rt (Nat.zero_le _) (Nat.zero_le _) d_MD_offerOf_54 ⟨rfl, rfl⟩
        · have hf := o_it c22 hf
          refine j_aload_n C 1 rfl rfl d_MD_offerOf_25 ?_
          refine g_MD_wOf C (List.mem_cons_of_mem _ wd_4_32) d_MD_offerOf_26 ?_
          refine j_iload_n C 0 rfl rfl d_MD_offerOf_29 ?_
          obtain ⟨g30, hf⟩ := o_gn hf
          refine la_m_wOf C g30 d_MD_offerOf_30 ?_
          refine j_goto C d_MD_offerOf_31 rfl ?_
          have hf := Option.some.inj hf
          subst hf
          exact j_iret C Rt (Nat.zero_le _) (Nat.zero_le _) d_MD_offerOf_54 ⟨rfl, rfl⟩
      · have hf := o_if c16 hf
        refine j_iconst C (v := -1) (by decide) d_MD_offerOf_19 ?_
        have hf := Option.some.inj hf
        subst hf
        exact j_iret C Rt (Nat.zero_le _) (Nat.zero_le _) d_MD_offerOf_20 ⟨rfl, rfl⟩
theorem d_MD_spending_0 : decode b_MD_spending 0 = .ok (.iload_n 2, 1) := by decide +kernel
theorem d_MD_spending_1 : decode b_MD_spending 1 = .ok (.invokestatic 95, 3) := by decide +kernel
theorem d_MD_spending_4 : decode b_MD_spending 4 = .ok (.istore 4, 2) := by decide +kernel
theorem d_MD_spending_6 : decode b_MD_spending 6 = .ok (.iload_n 2, 1) := by decide +kernel
theorem d_MD_spending_7 : decode b_MD_spending 7 = .ok (.invokestatic 99, 3) := by decide +kernel
theorem d_MD_spending_10 : decode b_MD_spending 10 = .ok (.istore 5, 2) := by decide +kernel
theorem d_MD_spending_12 : decode b_MD_spending 12 = .ok (.iload_n 1, 1) := by decide +kernel
theorem d_MD_spending_13 : decode b_MD_spending 13 = .ok (.iload 4, 2) := by decide +kernel
theorem d_MD_spending_15 : decode b_MD_spending 15 = .ok (.if_icmp .eq 42, 3) := by decide +kernel
theorem d_MD_spending_18 : decode b_MD_spending 18 = .ok (.aload_n 0, 1) := by decide +kernel
theorem d_MD_spending_19 : decode b_MD_spending 19 = .ok (.getfield 23, 3) := by decide +kernel
theorem d_MD_spending_22 : decode b_MD_spending 22 = .ok (.iload_n 1, 1) := by decide +kernel
theorem d_MD_spending_23 : decode b_MD_spending 23 = .ok (.iload 4, 2) := by decide +kernel
theorem d_MD_spending_25 : decode b_MD_spending 25 = .ok (.iload 5, 2) := by decide +kernel
theorem d_MD_spending_27 : decode b_MD_spending 27 = .ok (.invokestatic 102, 3) := by decide +kernel
theorem d_MD_spending_30 : decode b_MD_spending 30 = .ok (.iaload, 1) := by decide +kernel
theorem d_MD_spending_31 : decode b_MD_spending 31 = .ok (.i2l, 1) := by decide +kernel
theorem d_MD_spending_32 : decode b_MD_spending 32 = .ok (.iload_n 3, 1) := by decide +kernel
theorem d_MD_spending_33 : decode b_MD_spending 33 = .ok (.i2l, 1) := by decide +kernel
theorem d_MD_spending_34 : decode b_MD_spending 34 = .ok (.ladd, 1) := by decide +kernel
theorem d_MD_spending_35 : decode b_MD_spending 35 = .ok (.aload_n 0, 1) := by decide +kernel
theorem d_MD_spending_36 : decode b_MD_spending 36 = .ok (.getfield 26, 3) := by decide +kernel
theorem d_MD_spending_39 : decode b_MD_spending 39 = .ok (.iload_n 1, 1) := by decide +kernel
theorem d_MD_spending_40 : decode b_MD_spending 40 = .ok (.iload 4, 2) := by decide +kernel
theorem d_MD_spending_42 : decode b_MD_spending 42 = .ok (.iload 5, 2) := by decide +kernel
theorem d_MD_spending_44 : decode b_MD_spending 44 = .ok (.invokestatic 102, 3) := by decide +kernel
theorem d_MD_spending_47 : decode b_MD_spending 47 = .ok (.iaload, 1) := by decide +kernel
theorem d_MD_spending_48 : decode b_MD_spending 48 = .ok (.i2l, 1) := by decide +kernel
theorem d_MD_spending_49 : decode b_MD_spending 49 = .ok (.lcmp, 1) := by decide +kernel
theorem d_MD_spending_50 : decode b_MD_spending 50 = .ok (.ifCond .le 7, 3) := by decide +kernel
theorem d_MD_spending_53 : decode b_MD_spending 53 = .ok (.ldc2_w 202, 3) := by decide +kernel
theorem d_MD_spending_56 : decode b_MD_spending 56 = .ok (.lreturn, 1) := by decide +kernel
theorem d_MD_spending_57 : decode b_MD_spending 57 = .ok (.aload_n 0, 1) := by decide +kernel
theorem d_MD_spending_58 : decode b_MD_spending 58 = .ok (.iload_n 3, 1) := by decide +kernel
theorem d_MD_spending_59 : decode b_MD_spending 59 = .ok (.i2l, 1) := by decide +kernel
theorem d_MD_spending_60 : decode b_MD_spending 60 = .ok (.aload_n 0, 1) := by decide +kernel
theorem d_MD_spending_61 : decode b_MD_spending 61 = .ok (.getfield 68, 3) := by decide +kernel
theorem d_MD_spending_64 : decode b_MD_spending 64 = .ok (.iload_n 1, 1) := by decide +kernel
theorem d_MD_spending_65 : decode b_MD_spending 65 = .ok (.iload_n 2, 1) := by decide +kernel
theorem d_MD_spending_66 : decode b_MD_spending 66 = .ok (.invokevirtual 166, 3) := by decide +kernel
theorem d_MD_spending_69 : decode b_MD_spending 69 = .ok (.lstore 6, 2) := by decide +kernel
theorem d_MD_spending_71 : decode b_MD_spending 71 = .ok (.lload 6, 2) := by decide +kernel
theorem d_MD_spending_73 : decode b_MD_spending 73 = .ok (.lstore 8, 2) := by decide +kernel
theorem d_MD_spending_75 : decode b_MD_spending 75 = .ok (.aload_n 0, 1) := by decide +kernel
theorem d_MD_spending_76 : decode b_MD_spending 76 = .ok (.getfield 143, 3) := by decide +kernel
theorem d_MD_spending_79 : decode b_MD_spending 79 = .ok (.iload_n 2, 1) := by decide +kernel
theorem d_MD_spending_80 : decode b_MD_spending 80 = .ok (.if_icmp .ne 57, 3) := by decide +kernel
theorem d_MD_spending_83 : decode b_MD_spending 83 = .ok (.aload_n 0, 1) := by decide +kernel
theorem d_MD_spending_84 : decode b_MD_spending 84 = .ok (.getfield 68, 3) := by decide +kernel
theorem d_MD_spending_87 : decode b_MD_spending 87 = .ok (.iload 4, 2) := by decide +kernel
theorem d_MD_spending_89 : decode b_MD_spending 89 = .ok (.if_icmp .eq 86, 3) := by decide +kernel
theorem d_MD_spending_92 : decode b_MD_spending 92 = .ok (.iload_n 1, 1) := by decide +kernel
theorem d_MD_spending_93 : decode b_MD_spending 93 = .ok (.iload 4, 2) := by decide +kernel
theorem d_MD_spending_95 : decode b_MD_spending 95 = .ok (.if_icmp .eq 80, 3) := by decide +kernel
theorem d_MD_spending_98 : decode b_MD_spending 98 = .ok (.aload_n 0, 1) := by decide +kernel
theorem d_MD_spending_99 : decode b_MD_spending 99 = .ok (.getfield 29, 3) := by decide +kernel
theorem d_MD_spending_102 : decode b_MD_spending 102 = .ok (.iload 4, 2) := by decide +kernel
theorem d_MD_spending_104 : decode b_MD_spending 104 = .ok (.aload_n 0, 1) := by decide +kernel
theorem d_MD_spending_105 : decode b_MD_spending 105 = .ok (.getfield 68, 3) := by decide +kernel
theorem d_MD_spending_108 : decode b_MD_spending 108 = .ok (.iload 5, 2) := by decide +kernel
theorem d_MD_spending_110 : decode b_MD_spending 110 = .ok (.invokestatic 102, 3) := by decide +kernel
theorem d_MD_spending_113 : decode b_MD_spending 113 = .ok (.baload, 1) := by decide +kernel
theorem d_MD_spending_114 : decode b_MD_spending 114 = .ok (.ifCond .eq 61, 3) := by decide +kernel
theorem d_MD_spending_117 : decode b_MD_spending 117 = .ok (.aload_n 0, 1) := by decide +kernel
theorem d_MD_spending_118 : decode b_MD_spending 118 = .ok (.getfield 29, 3) := by decide +kernel
theorem d_MD_spending_121 : decode b_MD_spending 121 = .ok (.iload 4, 2) := by decide +kernel
theorem d_MD_spending_123 : decode b_MD_spending 123 = .ok (.iload_n 1, 1) := by decide +kernel
theorem d_MD_spending_124 : decode b_MD_spending 124 = .ok (.iload 5, 2) := by decide +kernel
theorem d_MD_spending_126 : decode b_MD_spending 126 = .ok (.invokestatic 102, 3) := by decide +kernel
theorem d_MD_spending_129 : decode b_MD_spending 129 = .ok (.baload, 1) := by decide +kernel
theorem d_MD_spending_130 : decode b_MD_spending 130 = .ok (.ifCond .eq 45, 3) := by decide +kernel
theorem d_MD_spending_133 : decode b_MD_spending 133 = .ok (.ldc2_w 202, 3) := by decide +kernel
theorem d_MD_spending_136 : decode b_MD_spending 136 = .ok (.lreturn, 1) := by decide +kernel
theorem d_MD_spending_137 : decode b_MD_spending 137 = .ok (.aload_n 0, 1) := by decide +kernel
theorem d_MD_spending_138 : decode b_MD_spending 138 = .ok (.aload_n 0, 1) := by decide +kernel
theorem d_MD_spending_139 : decode b_MD_spending 139 = .ok (.getfield 143, 3) := by decide +kernel
theorem d_MD_spending_142 : decode b_MD_spending 142 = .ok (.iload_n 2, 1) := by decide +kernel
theorem d_MD_spending_143 : decode b_MD_spending 143 = .ok (.lload 6, 2) := by decide +kernel
theorem d_MD_spending_145 : decode b_MD_spending 145 = .ok (.l2i, 1) := by decide +kernel
theorem d_MD_spending_146 : decode b_MD_spending 146 = .ok (.lconst 0, 1) := by decide +kernel
theorem d_MD_spending_147 : decode b_MD_spending 147 = .ok (.lconst 0, 1) := by decide +kernel
theorem d_MD_spending_148 : decode b_MD_spending 148 = .ok (.ldc2_w 202, 3) := by decide +kernel
theorem d_MD_spending_151 : decode b_MD_spending 151 = .ok (.invokevirtual 204, 3) := by decide +kernel
theorem d_MD_spending_154 : decode b_MD_spending 154 = .ok (.aload_n 0, 1) := by decide +kernel
theorem d_MD_spending_155 : decode b_MD_spending 155 = .ok (.getfield 177, 3) := by decide +kernel
theorem d_MD_spending_158 : decode b_MD_spending 158 = .ok (.i2l, 1) := by decide +kernel
theorem d_MD_spending_159 : decode b_MD_spending 159 = .ok (.lload 6, 2) := by decide +kernel
theorem d_MD_spending_161 : decode b_MD_spending 161 = .ok (.lcmp, 1) := by decide +kernel
theorem d_MD_spending_162 : decode b_MD_spending 162 = .ok (.ifCond .ge 7, 3) := by decide +kernel
theorem d_MD_spending_165 : decode b_MD_spending 165 = .ok (.ldc2_w 202, 3) := by decide +kernel
theorem d_MD_spending_168 : decode b_MD_spending 168 = .ok (.lreturn, 1) := by decide +kernel
theorem d_MD_spending_169 : decode b_MD_spending 169 = .ok (.aload_n 0, 1) := by decide +kernel
theorem d_MD_spending_170 : decode b_MD_spending 170 = .ok (.getfield 173, 3) := by decide +kernel
theorem d_MD_spending_173 : decode b_MD_spending 173 = .ok (.lstore 8, 2) := by decide +kernel
theorem d_MD_spending_175 : decode b_MD_spending 175 = .ok (.lload 8, 2) := by decide +kernel
theorem d_MD_spending_177 : decode b_MD_spending 177 = .ok (.aload_n 0, 1) := by decide +kernel
theorem d_MD_spending_178 : decode b_MD_spending 178 = .ok (.getfield 73, 3) := by decide +kernel
theorem d_MD_spending_181 : decode b_MD_spending 181 = .ok (.i2l, 1) := by decide +kernel
theorem d_MD_spending_182 : decode b_MD_spending 182 = .ok (.lcmp, 1) := by decide +kernel
theorem d_MD_spending_183 : decode b_MD_spending 183 = .ok (.ifCond .gt 27, 3) := by decide +kernel
theorem d_MD_spending_186 : decode b_MD_spending 186 = .ok (.lload 8, 2) := by decide +kernel
theorem d_MD_spending_188 : decode b_MD_spending 188 = .ok (.aload_n 0, 1) := by decide +kernel
theorem d_MD_spending_189 : decode b_MD_spending 189 = .ok (.aload_n 0, 1) := by decide +kernel
theorem d_MD_spending_190 : decode b_MD_spending 190 = .ok (.getfield 68, 3) := by decide +kernel
theorem d_MD_spending_193 : decode b_MD_spending 193 = .ok (.aload_n 0, 1) := by decide +kernel
theorem d_MD_spending_194 : decode b_MD_spending 194 = .ok (.getfield 143, 3) := by decide +kernel
theorem d_MD_spending_197 : decode b_MD_spending 197 = .ok (.invokevirtual 154, 3) := by decide +kernel
theorem d_MD_spending_200 : decode b_MD_spending 200 = .ok (.i2l, 1) := by decide +kernel
theorem d_MD_spending_201 : decode b_MD_spending 201 = .ok (.lcmp, 1) := by decide +kernel
theorem d_MD_spending_202 : decode b_MD_spending 202 = .ok (.ifCond .gt 8, 3) := by decide +kernel
theorem d_MD_spending_205 : decode b_MD_spending 205 = .ok (.lload 8, 2) := by decide +kernel
theorem d_MD_spending_207 : decode b_MD_spending 207 = .ok (.goto 6, 3) := by decide +kernel
theorem d_MD_spending_210 : decode b_MD_spending 210 = .ok (.ldc2_w 202, 3) := by decide +kernel
theorem d_MD_spending_213 : decode b_MD_spending 213 = .ok (.lreturn, 1) := by decide +kernel
def MD_spending_c175 (x8 : Int64) (σ : ST) : Option (Int64 × ST) :=
  if 0 < (lg_cmp x8 (gI σ 28).toInt64) then (some ((-1 : Int64), σ))
  else (bd1 (MD_fundsIn (gI σ 25) (gI σ 27) σ) fun r197 =>
  if 0 < (lg_cmp x8 r197.toInt64) then (some ((-1 : Int64), σ))
  else (some (x8, σ)))
set_option maxRecDepth 100000 in
set_option maxHeartbeats 4000000 in
theorem w_MD_spending_c175 {X : JX} (C : JC X l D (ttf cs) eE b_MD_spending "TollLedgerModel" 10 (Cond.code y_MD_spending b_MD_spending 10 r_MD_spending :: BIG) 6 153 0 0) {res : Int64 × ST} (Rt : JR X (wfm ad cs) 0 0 (PL res.1 res.2) r_MD_spending "spending")  (x8 : Int64) (σ : ST) (hf : MD_spending_c175 x8 σ = some res) : J (wfm ad cs) X 10 0 0 σ 175 [(0, .ref (ad 18)), (8, .long x8)] [] := by
  unfold MD_spending_c175 at hf
  refine j_lload C 1 rfl d_MD_spending_175 ?_
  refine j_aload_n C 0 rfl rfl d_MD_spending_177 ?_
  refine g_MD_spendMost C (List.mem_cons_of_mem _ wd_4_45) d_MD_spending_178 ?_
  refine j_i2l C d_MD_spending_181 ?_
  refine j_lcmp C d_MD_spending_182 ?_
  refine j_if_gt C d_MD_spending_183 rfl (fun c183 => ?_) (fun c183 => ?_)
  · have hf := o_it c183 hf
    refine j_ldc2 C (v := -1) (List.mem_cons_of_mem _ wd_4_206) d_MD_spending_210 ?_
    have hf := Option.some.inj hf
    subst hf
    exact j_lret C Rt (Nat.zero_le _) (Nat.zero_le _) d_MD_spending_213 ⟨rfl, rfl⟩
  · have hf := o_if c183 hf
    refine j_lload C 1 rfl d_MD_spending_186 ?_
    refine j_aload_n C 0 rfl rfl d_MD_spending_188 ?_
    refine j_aload_n C 0 rfl rfl d_MD_spending_189 ?_
    refine g_MD_me C (List.mem_cons_of_mem _ wd_4_42) d_MD_spending_190 ?_
    refine j_aload_n C 0 rfl rfl d_MD_spending_193 ?_
    refine g_MD_spendAsset C (List.mem_cons_of_mem _ wd_4_44) d_MD_spending_194 ?_
    obtain ⟨r197, h197, hf⟩ := o_b1 hf
    refine j_callV (ci := 10) (Cn := "TollLedgerModel") (T := T_MD) (N := 39) C [.int (gI σ 25), .int (gI σ 27)] [.long x8] (m_MD_fundsIn _ _ _ _ _ (gI σ 25) (gI σ 27) σ h197) (gdV wd_4_160 wd_4_162 wp_18 wd_1_11 wc_MD_fundsIn) hy_MD_fundsIn rfl ⟨18, rfl⟩ rfl rfl (by decide) (by decide) (by decide) (by decide) (Nat.le_of_ble_eq_true rfl) d_MD_spending_197 (j_kI (r := r197) (σ1 := σ) ?_)
    refine j_i2l C d_MD_spending_200 ?_
    refine j_lcmp C d_MD_spending_201 ?_
    refine j_if_gt C d_MD_spending_202 rfl (fun c202 => ?_) (fun c202 => ?_)
    · have hf := o_it c202 hf
      refine j_ldc2 C (v := -1) (List.mem_cons_of_mem _ wd_4_206) d_MD_spending_210 ?_
      have hf := Option.some.inj hf
      subst hf
      exact j_lret C Rt (Nat.zero_le _) (Nat.zero_le _) d_MD_spending_213 ⟨rfl, rfl⟩
    · have hf := o_if c202 hf
      refine j_lload C 1 rfl d_MD_spending_205 ?_
      refine j_goto C d_MD_spending_207 rfl ?_
      have hf := Option.some.inj hf
      subst hf
      exact j_lret C Rt (Nat.zero_le _) (Nat.zero_le _) d_MD_spending_213 ⟨rfl, rfl⟩
def MD_spending_c57 (x1 : Int32) (x2 : Int32) (x3 : Int32) (x4 : Int32) (x5 : Int32) (σ : ST) : Option (Int64 × ST) :=
  bd1 (MD_costOf x3.toInt64 (gI σ 25) x1 x2 σ) fun r66 =>
  if (gI σ 27) = x2 then (if (gI σ 25) = x4 then (MD_spending_c175 r66 σ)
  else (if x1 = x4 then (MD_spending_c175 r66 σ)
  else (bd1 (MD_line x4 (gI σ 25) x5) fun r110 =>
  if r110 < 0 ∨ 72 ≤ r110.toNatClampNeg then none else
  if (gA σ 14 r110.toNatClampNeg) = 0 then (MD_spending_c175 r66 σ)
  else (bd1 (MD_line x4 x1 x5) fun r126 =>
  if r126 < 0 ∨ 72 ≤ r126.toNatClampNeg then none else
  if (gA σ 14 r126.toNatClampNeg) = 0 then (MD_spending_c175 r66 σ)
  else (some ((-1 : Int64), σ))))))
  else (bd1 (MD_take (gI σ 27) x2 r66.toInt32 (0 : Int64) (0 : Int64) (-1 : Int64) σ) fun σ151 =>
  if 0 ≤ (lg_cmp (gI σ151 32).toInt64 r66) then (nmL (gL σ151 1) fun x8_173 =>
  MD_spending_c175 x8_173 σ151)
  else (some ((-1 : Int64), σ151)))
set_option maxRecDepth 100000 in
set_option maxHeartbeats 4000000 in
theorem w_MD_spending_c57 {X : JX} (C : JC X l D (ttf cs) eE b_MD_spending "TollLedgerModel" 10 (Cond.code y_MD_spending b_MD_spending 10 r_MD_spending :: BIG) 6 153 0 0) {res : Int64 × ST} (Rt : JR X (wfm ad cs) 0 0 (PL res.1 res.2) r_MD_spending "spending")  (x1 : Int32) (x2 : Int32) (x3 : Int32) (x4 : Int32) (x5 : Int32) (σ : ST) (hf : MD_spending_c57 x1 x2 x3 x4 x5 σ = some res) : J (wfm ad cs) X 10 0 0 σ 57 [(0, .ref (ad 18)), (1, .int x1), (2, .int x2), (3, .int x3), (4, .int x4), (5, .int x5)] [] := by
  unfold MD_spending_c57 at hf
  refine j_aload_n C 0 rfl rfl d_MD_spending_57 ?_
  refine j_iload_n C 3 rfl rfl d_MD_spending_58 ?_
  refine j_i2l C d_MD_spending_59 ?_
  refine j_aload_n C 0 rfl rfl d_MD_spending_60 ?_
  refine g_MD_me C (List.mem_cons_of_mem _ wd_4_42) d_MD_spending_61 ?_
  refine j_iload_n C 1 rfl rfl d_MD_spending_64 ?_
  refine j_iload_n C 2 rfl rfl d_MD_spending_65 ?_
  obtain ⟨r66, h66, hf⟩ := o_b1 hf
  refine j_callV (ci := 10) (Cn := "TollLedgerModel") (T := T_MD) (N := 39) C [.long x3.toInt64, .int (gI σ 25), .int x1, .int x2] [] (m_MD_costOf _ _ _ _ _ x3.toInt64 (gI σ 25) x1 x2 σ h66) (gdV wd_4_207 wd_4_209 wp_23 wd_1_11 wc_MD_costOf) hy_MD_costOf rfl ⟨18, rfl⟩ rfl rfl (by decide) (by decide) (by decide) (by decide) (Nat.le_of_ble_eq_true rfl) d_MD_spending_66 (j_kL (r := r66) (σ1 := σ) ?_)
  refine j_lstore C (by decide) (loc' := [(6, .long r66), (0, .ref (ad 18)), (1, .int x1), (2, .int x2), (3, .int x3), (4, .int x4), (5, .int x5)]) rfl d_MD_spending_69 ?_
  refine j_lload C 0 rfl d_MD_spending_71 ?_
  refine j_lstore C (by decide) (loc' := [(8, .long r66), (6, .long r66), (0, .ref (ad 18)), (1, .int x1), (2, .int x2), (3, .int x3), (4, .int x4), (5, .int x5)]) rfl d_MD_spending_73 ?_
  refine j_aload_n C 2 rfl rfl d_MD_spending_75 ?_
  refine g_MD_spendAsset C (List.mem_cons_of_mem _ wd_4_44) d_MD_spending_76 ?_
  refine j_iload_n C 4 rfl rfl d_MD_spending_79 ?_
  refine j_icmp_ne C d_MD_spending_80 rfl (fun c80 => ?_) (fun c80 => ?_)
  · have hf := o_if c80 hf
    refine j_aload_n C 2 rfl rfl d_MD_spending_137 ?_
    refine j_aload_n C 2 rfl rfl d_MD_spending_138 ?_
    refine g_MD_spendAsset C (List.mem_cons_of_mem _ wd_4_44) d_MD_spending_139 ?_
    refine j_iload_n C 4 rfl rfl d_MD_spending_142 ?_
    refine j_lload C 1 rfl d_MD_spending_143 ?_
    refine j_l2i C d_MD_spending_145 ?_
    refine j_lconst C (v := 0) (by decide) d_MD_spending_146 ?_
    refine j_lconst C (v := 0) (by decide) d_MD_spending_147 ?_
    refine j_ldc2 C (v := -1) (List.mem_cons_of_mem _ wd_4_206) d_MD_spending_148 ?_
    obtain ⟨σ151, h151, hf⟩ := o_b1 hf
    refine j_callV (ci := 10) (Cn := "TollLedgerModel") (T := T_MD) (N := 39) C [.int (gI σ 27), .int x2, .int r66.toInt32, .long (0 : Int64), .long (0 : Int64), .long (-1 : Int64)] [] (m_MD_take _ _ _ _ _ (gI σ 27) x2 r66.toInt32 (0 : Int64) (0 : Int64) (-1 : Int64) σ h151) (gdV wd_4_213 wd_4_215 wp_24 wd_1_11 wc_MD_take) hy_MD_take rfl ⟨18, rfl⟩ rfl rfl (by decide) (by decide) (by decide) (by decide) (Nat.le_of_ble_eq_true rfl) d_MD_spending_151 (j_kV (σ1 := σ151) ?_)
    refine j_aload_n C 2 rfl rfl d_MD_spending_154 ?_
    refine g_MD_got C (List.mem_cons_of_mem _ wd_4_54) d_MD_spending_155 ?_
    refine j_i2l C d_MD_spending_158 ?_
    refine j_lload C 1 rfl d_MD_spending_159 ?_
    refine j_lcmp C d_MD_spending_161 ?_
    refine j_if_ge C d_MD_spending_162 rfl (fun c162 => ?_) (fun c162 => ?_)
    · have hf := o_it c162 hf
      refine j_aload_n C 2 rfl rfl d_MD_spending_169 ?_
      refine g_MD_costSum C (List.mem_cons_of_mem _ wd_4_56) d_MD_spending_170 ?_
      obtain ⟨x8_173, ex8_173, hf⟩ := o_nmL hf
      refine j_topL ex8_173 ?_
      refine j_lstore C (by decide) (loc' := [(8, .long x8_173), (6, .long r66), (0, .ref (ad 18)), (1, .int x1), (2, .int x2), (3, .int x3), (4, .int x4), (5, .int x5)]) rfl d_MD_spending_173 ?_
      refine j_sub [2, 0] rfl ?_
      exact w_MD_spending_c175 C Rt  x8_173 σ151 hf
    · have hf := o_if c162 hf
      refine j_ldc2 C (v := -1) (List.mem_cons_of_mem _ wd_4_206) d_MD_spending_165 ?_
      have hf := Option.some.inj hf
      subst hf
      exact j_lret C Rt (Nat.zero_le _) (Nat.zero_le _) d_MD_spending_168 ⟨rfl, rfl⟩
  · have hf := o_it c80 hf
    refine j_aload_n C 2 rfl rfl d_MD_spending_83 ?_
    refine g_MD_me C (List.mem_cons_of_mem _ wd_4_42) d_MD_spending_84 ?_
    refine j_iload C 6 rfl d_MD_spending_87 ?_
    refine j_icmp_eq C d_MD_spending_89 rfl (fun c89 => ?_) (fun c89 => ?_)
    · have hf := o_it c89 hf
      refine j_sub [2, 0] rfl ?_
      exact w_MD_spending_c175 C Rt  r66 σ hf
    · have hf := o_if c89 hf
      refine j_iload_n C 3 rfl rfl d_MD_spending_92 ?_
      refine j_iload C 6 rfl d_MD_spending_93 ?_
      refine j_icmp_eq C d_MD_spending_95 rfl (fun c95 => ?_) (fun c95 => ?_)
      · have hf := o_it c95 hf
        refine j_sub [2, 0] rfl ?_
        exact w_MD_spending_c175 C Rt  r66 σ hf
      · have hf := o_if c95 hf
        refine j_aload_n C 2 rfl rfl d_MD_spending_98 ?_
        refine g_MD_quiets C (List.mem_cons_of_mem _ wd_4_25) d_MD_spending_99 ?_
        refine j_iload C 6 rfl d_MD_spending_102 ?_
        refine j_aload_n C 2 rfl rfl d_MD_spending_104 ?_
        refine g_MD_me C (List.mem_cons_of_mem _ wd_4_42) d_MD_spending_105 ?_
        refine j_iload C 7 rfl d_MD_spending_108 ?_
        obtain ⟨r110, h110, hf⟩ := o_b1 hf
        refine j_callS C [.int x4, .int (gI σ 25), .int x5] [.ref (ad 25)] (m_MD_line _ _ _ _ _ x4 (gI σ 25) x5 σ h110) (gdS wd_4_186 wd_4_187 wd_1_11 wc_MD_line) hy_MD_line rfl rfl (by decide) (by decide) (by decide) (by decide) (Nat.le_of_ble_eq_true rfl) d_MD_spending_110 (j_kI (r := r110) (σ1 := σ) ?_)
        obtain ⟨g113, hf⟩ := o_gn hf
        refine la_m_quiets C g113 d_MD_spending_113 ?_
        refine j_if_eq C d_MD_spending_114 rfl (fun c114 => ?_) (fun c114 => ?_)
        · have hf := o_it c114 hf
          refine j_sub [2, 0] rfl ?_
          exact w_MD_spending_c175 C Rt  r66 σ hf
        · have hf := o_if c114 hf
          refine j_aload_n C 2 rfl rfl d_MD_spending_117 ?_
          refine g_MD_quiets C (List.mem_cons_of_mem _ wd_4_25) d_MD_spending_118 ?_
          refine j_iload C 6 rfl d_MD_spending_121 ?_
          refine j_iload_n C 3 rfl rfl d_MD_spending_123 ?_
          refine j_iload C 7 rfl d_MD_spending_124 ?_
          obtain ⟨r126, h126, hf⟩ := o_b1 hf
          refine j_callS C [.int x4, .int x1, .int x5] [.ref (ad 25)] (m_MD_line _ _ _ _ _ x4 x1 x5 σ h126) (gdS wd_4_186 wd_4_187 wd_1_11 wc_MD_line) hy_MD_line rfl rfl (by decide) (by decide) (by decide) (by decide) (Nat.le_of_ble_eq_true rfl) d_MD_spending_126 (j_kI (r := r126) (σ1 := σ) ?_)
          obtain ⟨g129, hf⟩ := o_gn hf
          refine la_m_quiets C g129 d_MD_spending_129 ?_
          refine j_if_eq C d_MD_spending_130 rfl (fun c130 => ?_) (fun c130 => ?_)
          · have hf := o_it c130 hf
            refine j_sub [2, 0] rfl ?_
            exact w_MD_spending_c175 C Rt  r66 σ hf
          · have hf := o_if c130 hf
            refine j_ldc2 C (v := -1) (List.mem_cons_of_mem _ wd_4_206) d_MD_spending_133 ?_
            have hf := Option.some.inj hf
            subst hf
            exact j_lret C Rt (Nat.zero_le _) (Nat.zero_le _) d_MD_spending_136 ⟨rfl, rfl⟩
def MD_spending (x1 : Int32) (x2 : Int32) (x3 : Int32) (σ : ST) : Option (Int64 × ST) :=
  bd1 (MD_issuerOf x2) fun r1 =>
  bd1 (MD_currencyOf x2) fun r7 =>
  if x1 = r1 then (MD_spending_c57 x1 x2 x3 r1 r7 σ)
  else (bd1 (MD_line x1 r1 r7) fun r27 =>
  if r27 < 0 ∨ 72 ≤ r27.toNatClampNeg then none else
  bd1 (MD_line x1 r1 r7) fun r44 =>
  if r44 < 0 ∨ 72 ≤ r44.toNatClampNeg then none else
  if (lg_cmp ((gA σ 12 r27.toNatClampNeg).toInt64 + x3.toInt64) (gA σ 13 r44.toNatClampNeg).toInt64) ≤ 0 then (MD_spending_c57 x1 x2 x3 r1 r7 σ)
  else (some ((-1 : Int64), σ)))
set_option maxRecDepth 100000 in
set_option maxHeartbeats 4000000 in
theorem m_MD_spending (l : Launch) (D : va_G) (ad : Nat → Nat) (cs : Nat → ClassId) (eE : Nat × Nat) (x1 : Int32) (x2 : Int32) (x3 : Int32) (σ : ST) {res : Int64 × ST} (hf : MD_spending x1 x2 x3 σ = some res) : MS l y_MD_spending (Cond.code y_MD_spending b_MD_spending 10 r_MD_spending :: BIG) 6 153 0 0 (wfm ad cs) D (ttf cs) eE [.ref (ad 18), .int x1, .int x2, .int x3] σ (PL res.1 res.2) := by
  refine MS.of (cc := b_MD_spending) (maxL := 10) (ret := r_MD_spending) (by decide) rfl (Nat.le_of_ble_eq_true rfl) (loc := [(0, .ref (ad 18)), (1, .int x1), (2, .int x2), (3, .int x3)]) rfl (fun X C Rt => ?_)
  unfold MD_spending at hf
  refine j_iload_n C 2 rfl rfl d_MD_spending_0 ?_
  obtain ⟨r1, h1, hf⟩ := o_b1 hf
  refine j_callS C [.int x2] [] (m_MD_issuerOf _ _ _ _ _ x2 σ h1) (gdS wd_4_164 wd_4_165 wd_1_11 wc_MD_issuerOf) hy_MD_issuerOf rfl rfl (by decide) (by decide) (by decide) (by decide) (Nat.le_of_ble_eq_true rfl) d_MD_spending_1 (j_kI (r := r1) (σ1 := σ) ?_)
  refine j_istore C (by decide) (loc' := [(4, .int r1), (0, .ref (ad 18)), (1, .int x1), (2, .int x2), (3, .int x3)]) rfl d_MD_spending_4 ?_
  refine j_iload_n C 3 rfl rfl d_MD_spending_6 ?_
  obtain ⟨r7, h7, hf⟩ := o_b1 hf
  refine j_callS C [.int x2] [] (m_MD_currencyOf _ _ _ _ _ x2 σ h7) (gdS wd_4_183 wd_4_184 wd_1_11 wc_MD_currencyOf) hy_MD_currencyOf rfl rfl (by decide) (by decide) (by decide) (by decide) (Nat.le_of_ble_eq_true rfl) d_MD_spending_7 (j_kI (r := r7) (σ1 := σ) ?_)
  refine j_istore C (by decide) (loc' := [(5, .int r7), (4, .int r1), (0, .ref (ad 18)), (1, .int x1), (2, .int x2), (3, .int x3)]) rfl d_MD_spending_10 ?_
  refine j_iload_n C 3 rfl rfl d_MD_spending_12 ?_
  refine j_iload C 1 rfl d_MD_spending_13 ?_
  refine j_icmp_eq C d_MD_spending_15 rfl (fun c15 => ?_) (fun c15 => ?_)
  · have hf := o_it c15 hf
    refine j_sub [2, 3, 4, 5, 1, 0] rfl ?_
    exact w_MD_spending_c57 C Rt  x1 x2 x3 r1 r7 σ hf
  · have hf := o_if c15 hf
    refine j_aload_n C 2 rfl rfl d_MD_spending_18 ?_
    refine g_MD_balances C (List.mem_cons_of_mem _ wd_4_23) d_MD_spending_19 ?_
    refine j_iload_n C 3 rfl rfl d_MD_spending_22 ?_
    refine j_iload C 1 rfl d_MD_spending_23 ?_
    refine j_iload C 0 rfl d_MD_spending_25 ?_
    obtain ⟨r27, h27, hf⟩ := o_b1 hf
    refine j_callS C [.int x1, .int r1, .int r7] [.ref (ad 23)] (m_MD_line _ _ _ _ _ x1 r1 r7 σ h27) (gdS wd_4_186 wd_4_187 wd_1_11 wc_MD_line) hy_MD_line rfl rfl (by decide) (by decide) (by decide) (by decide) (Nat.le_of_ble_eq_true rfl) d_MD_spending_27 (j_kI (r := r27) (σ1 := σ) ?_)
    obtain ⟨g30, hf⟩ := o_gn hf
    refine la_m_balances C g30 d_MD_spending_30 ?_
    refine j_i2l C d_MD_spending_31 ?_
    refine j_iload_n C 5 rfl rfl d_MD_spending_32 ?_
    refine j_i2l C d_MD_spending_33 ?_
    refine j_ladd C d_MD_spending_34 ?_
    refine j_aload_n C 2 rfl rfl d_MD_spending_35 ?_
    refine g_MD_limits C (List.mem_cons_of_mem _ wd_4_24) d_MD_spending_36 ?_
    refine j_iload_n C 3 rfl rfl d_MD_spending_39 ?_
    refine j_iload C 1 rfl d_MD_spending_40 ?_
    refine j_iload C 0 rfl d_MD_spending_42 ?_
    obtain ⟨r44, h44, hf⟩ := o_b1 hf
    refine j_callS C [.int x1, .int r1, .int r7] [.ref (ad 24), .long ((gA σ 12 r27.toNatClampNeg).toInt64 + x3.toInt64)] (m_MD_line _ _ _ _ _ x1 r1 r7 σ h44) (gdS wd_4_186 wd_4_187 wd_1_11 wc_MD_line) hy_MD_line rfl rfl (by decide) (by decide) (by decide) (by decide) (Nat.le_of_ble_eq_true rfl) d_MD_spending_44 (j_kI (r := r44) (σ1 := σ) ?_)
    obtain ⟨g47, hf⟩ := o_gn hf
    refine la_m_limits C g47 d_MD_spending_47 ?_
    refine j_i2l C d_MD_spending_48 ?_
    refine j_lcmp C d_MD_spending_49 ?_
    refine j_if_le C d_MD_spending_50 rfl (fun c50 => ?_) (fun c50 => ?_)
    · have hf := o_it c50 hf
      refine j_sub [2, 3, 4, 5, 1, 0] rfl ?_
      exact w_MD_spending_c57 C Rt  x1 x2 x3 r1 r7 σ hf
    · have hf := o_if c50 hf
      refine j_ldc2 C (v := -1) (List.mem_cons_of_mem _ wd_4_206) d_MD_spending_53 ?_
      have hf := Option.some.inj hf
      subst hf
      exact j_lret C Rt (Nat.zero_le _) (Nat.zero_le _) d_MD_spending_56 ⟨rfl, rfl⟩
theorem d_MD_pay_0 : decode b_MD_pay 0 = .ok (.aload_n 0, 1) := by decide +kernel
theorem d_MD_pay_1 : decode b_MD_pay 1 = .ok (.iload_n 1, 1) := by decide +kernel
theorem d_MD_pay_2 : decode b_MD_pay 2 = .ok (.invokestatic 137, 3) := by decide +kernel
theorem d_MD_pay_5 : decode b_MD_pay 5 = .ok (.ifCond .eq 38, 3) := by decide +kernel
theorem d_MD_pay_8 : decode b_MD_pay 8 = .ok (.iload_n 1, 1) := by decide +kernel
theorem d_MD_pay_9 : decode b_MD_pay 9 = .ok (.aload_n 0, 1) := by decide +kernel
theorem d_MD_pay_10 : decode b_MD_pay 10 = .ok (.getfield 68, 3) := by decide +kernel
theorem d_MD_pay_13 : decode b_MD_pay 13 = .ok (.if_icmp .eq 30, 3) := by decide +kernel
theorem d_MD_pay_16 : decode b_MD_pay 16 = .ok (.iload_n 2, 1) := by decide +kernel
theorem d_MD_pay_17 : decode b_MD_pay 17 = .ok (.iconst 1, 1) := by decide +kernel
theorem d_MD_pay_18 : decode b_MD_pay 18 = .ok (.if_icmp .lt 25, 3) := by decide +kernel
theorem d_MD_pay_21 : decode b_MD_pay 21 = .ok (.iload_n 2, 1) := by decide +kernel
theorem d_MD_pay_22 : decode b_MD_pay 22 = .ok (.bipush 12, 2) := by decide +kernel
theorem d_MD_pay_24 : decode b_MD_pay 24 = .ok (.if_icmp .gt 19, 3) := by decide +kernel
theorem d_MD_pay_27 : decode b_MD_pay 27 = .ok (.iload_n 3, 1) := by decide +kernel
theorem d_MD_pay_28 : decode b_MD_pay 28 = .ok (.iconst 1, 1) := by decide +kernel
theorem d_MD_pay_29 : decode b_MD_pay 29 = .ok (.if_icmp .lt 14, 3) := by decide +kernel
theorem d_MD_pay_32 : decode b_MD_pay 32 = .ok (.iload_n 3, 1) := by decide +kernel
theorem d_MD_pay_33 : decode b_MD_pay 33 = .ok (.sipush 400, 3) := by decide +kernel
theorem d_MD_pay_36 : decode b_MD_pay 36 = .ok (.if_icmp .gt 7, 3) := by decide +kernel
theorem d_MD_pay_39 : decode b_MD_pay 39 = .ok (.iconst 1, 1) := by decide +kernel
theorem d_MD_pay_40 : decode b_MD_pay 40 = .ok (.goto 4, 3) := by decide +kernel
theorem d_MD_pay_43 : decode b_MD_pay 43 = .ok (.iconst 0, 1) := by decide +kernel
theorem d_MD_pay_44 : decode b_MD_pay 44 = .ok (.invokevirtual 150, 3) := by decide +kernel
theorem d_MD_pay_47 : decode b_MD_pay 47 = .ok (.istore 4, 2) := by decide +kernel
theorem d_MD_pay_49 : decode b_MD_pay 49 = .ok (.iload 4, 2) := by decide +kernel
theorem d_MD_pay_51 : decode b_MD_pay 51 = .ok (.ifCond .eq 6, 3) := by decide +kernel
theorem d_MD_pay_54 : decode b_MD_pay 54 = .ok (.iload 4, 2) := by decide +kernel
theorem d_MD_pay_56 : decode b_MD_pay 56 = .ok (.ireturn, 1) := by decide +kernel
theorem d_MD_pay_57 : decode b_MD_pay 57 = .ok (.aload_n 0, 1) := by decide +kernel
theorem d_MD_pay_58 : decode b_MD_pay 58 = .ok (.getfield 7, 3) := by decide +kernel
theorem d_MD_pay_61 : decode b_MD_pay 61 = .ok (.iload_n 1, 1) := by decide +kernel
theorem d_MD_pay_62 : decode b_MD_pay 62 = .ok (.baload, 1) := by decide +kernel
theorem d_MD_pay_63 : decode b_MD_pay 63 = .ok (.ifCond .ne 6, 3) := by decide +kernel
theorem d_MD_pay_66 : decode b_MD_pay 66 = .ok (.bipush 21, 2) := by decide +kernel
theorem d_MD_pay_68 : decode b_MD_pay 68 = .ok (.ireturn, 1) := by decide +kernel
theorem d_MD_pay_69 : decode b_MD_pay 69 = .ok (.aload_n 0, 1) := by decide +kernel
theorem d_MD_pay_70 : decode b_MD_pay 70 = .ok (.getfield 146, 3) := by decide +kernel
theorem d_MD_pay_73 : decode b_MD_pay 73 = .ok (.ifCond .eq 7, 3) := by decide +kernel
theorem d_MD_pay_76 : decode b_MD_pay 76 = .ok (.iconst 1, 1) := by decide +kernel
theorem d_MD_pay_77 : decode b_MD_pay 77 = .ok (.goto 4, 3) := by decide +kernel
theorem d_MD_pay_80 : decode b_MD_pay 80 = .ok (.iload_n 3, 1) := by decide +kernel
theorem d_MD_pay_81 : decode b_MD_pay 81 = .ok (.istore 5, 2) := by decide +kernel
theorem d_MD_pay_83 : decode b_MD_pay 83 = .ok (.iload_n 3, 1) := by decide +kernel
theorem d_MD_pay_84 : decode b_MD_pay 84 = .ok (.istore 6, 2) := by decide +kernel
theorem d_MD_pay_86 : decode b_MD_pay 86 = .ok (.iload 6, 2) := by decide +kernel
theorem d_MD_pay_88 : decode b_MD_pay 88 = .ok (.iload 5, 2) := by decide +kernel
theorem d_MD_pay_90 : decode b_MD_pay 90 = .ok (.if_icmp .lt 69, 3) := by decide +kernel
theorem d_MD_pay_93 : decode b_MD_pay 93 = .ok (.aload_n 0, 1) := by decide +kernel
theorem d_MD_pay_94 : decode b_MD_pay 94 = .ok (.iload_n 1, 1) := by decide +kernel
theorem d_MD_pay_95 : decode b_MD_pay 95 = .ok (.iload_n 2, 1) := by decide +kernel
theorem d_MD_pay_96 : decode b_MD_pay 96 = .ok (.iload 6, 2) := by decide +kernel
theorem d_MD_pay_98 : decode b_MD_pay 98 = .ok (.invokevirtual 208, 3) := by decide +kernel
theorem d_MD_pay_101 : decode b_MD_pay 101 = .ok (.lstore 7, 2) := by decide +kernel
theorem d_MD_pay_103 : decode b_MD_pay 103 = .ok (.lload 7, 2) := by decide +kernel
theorem d_MD_pay_105 : decode b_MD_pay 105 = .ok (.lconst 0, 1) := by decide +kernel
theorem d_MD_pay_106 : decode b_MD_pay 106 = .ok (.lcmp, 1) := by decide +kernel
theorem d_MD_pay_107 : decode b_MD_pay 107 = .ok (.ifCond .lt 46, 3) := by decide +kernel
theorem d_MD_pay_110 : decode b_MD_pay 110 = .ok (.aload_n 0, 1) := by decide +kernel
theorem d_MD_pay_111 : decode b_MD_pay 111 = .ok (.getfield 143, 3) := by decide +kernel
theorem d_MD_pay_114 : decode b_MD_pay 114 = .ok (.iload_n 2, 1) := by decide +kernel
theorem d_MD_pay_115 : decode b_MD_pay 115 = .ok (.if_icmp .eq 12, 3) := by decide +kernel
theorem d_MD_pay_118 : decode b_MD_pay 118 = .ok (.aload_n 0, 1) := by decide +kernel
theorem d_MD_pay_119 : decode b_MD_pay 119 = .ok (.aload_n 0, 1) := by decide +kernel
theorem d_MD_pay_120 : decode b_MD_pay 120 = .ok (.getfield 143, 3) := by decide +kernel
theorem d_MD_pay_123 : decode b_MD_pay 123 = .ok (.iload_n 2, 1) := by decide +kernel
theorem d_MD_pay_124 : decode b_MD_pay 124 = .ok (.invokevirtual 212, 3) := by decide +kernel
theorem d_MD_pay_127 : decode b_MD_pay 127 = .ok (.aload_n 0, 1) := by decide +kernel
theorem d_MD_pay_128 : decode b_MD_pay 128 = .ok (.aload_n 0, 1) := by decide +kernel
theorem d_MD_pay_129 : decode b_MD_pay 129 = .ok (.getfield 68, 3) := by decide +kernel
theorem d_MD_pay_132 : decode b_MD_pay 132 = .ok (.aload_n 0, 1) := by decide +kernel
theorem d_MD_pay_133 : decode b_MD_pay 133 = .ok (.getfield 143, 3) := by decide +kernel
theorem d_MD_pay_136 : decode b_MD_pay 136 = .ok (.lload 7, 2) := by decide +kernel
theorem d_MD_pay_138 : decode b_MD_pay 138 = .ok (.lneg, 1) := by decide +kernel
theorem d_MD_pay_139 : decode b_MD_pay 139 = .ok (.invokevirtual 194, 3) := by decide +kernel
theorem d_MD_pay_142 : decode b_MD_pay 142 = .ok (.aload_n 0, 1) := by decide +kernel
theorem d_MD_pay_143 : decode b_MD_pay 143 = .ok (.iload_n 1, 1) := by decide +kernel
theorem d_MD_pay_144 : decode b_MD_pay 144 = .ok (.iload_n 2, 1) := by decide +kernel
theorem d_MD_pay_145 : decode b_MD_pay 145 = .ok (.iload 6, 2) := by decide +kernel
theorem d_MD_pay_147 : decode b_MD_pay 147 = .ok (.i2l, 1) := by decide +kernel
theorem d_MD_pay_148 : decode b_MD_pay 148 = .ok (.invokevirtual 194, 3) := by decide +kernel
theorem d_MD_pay_151 : decode b_MD_pay 151 = .ok (.iconst 0, 1) := by decide +kernel
theorem d_MD_pay_152 : decode b_MD_pay 152 = .ok (.ireturn, 1) := by decide +kernel
theorem d_MD_pay_153 : decode b_MD_pay 153 = .ok (.iinc 6 (-1), 3) := by decide +kernel
theorem d_MD_pay_156 : decode b_MD_pay 156 = .ok (.goto (-70), 3) := by decide +kernel
theorem d_MD_pay_159 : decode b_MD_pay 159 = .ok (.bipush 24, 2) := by decide +kernel
theorem d_MD_pay_161 : decode b_MD_pay 161 = .ok (.ireturn, 1) := by decide +kernel
def MD_pay_c127 (x1 : Int32) (x2 : Int32) (x6 : Int32) (x7 : Int64) (σ : ST) : Option (Int32 × ST) :=
  bd1 (MD_change (gI σ 25) (gI σ 27) (-x7) σ) fun σ139 =>
  bd1 (MD_change x1 x2 x6.toInt64 σ139) fun σ148 =>
  some ((0 : Int32), σ148)
set_option maxRecDepth 100000 in
set_option maxHeartbeats 4000000 in
theorem w_MD_pay_c127 {X : JX} (C : JC X l D (ttf cs) eE b_MD_pay "TollLedgerModel" 9 (Cond.code y_MD_pay b_MD_pay 9 r_MD_pay :: BIG) 7 182 0 0) {res : Int32 × ST} (Rt : JR X (wfm ad cs) 0 0 (PI res.1 res.2) r_MD_pay "pay")  (x1 : Int32) (x2 : Int32) (x6 : Int32) (x7 : Int64) (σ : ST) (hf : MD_pay_c127 x1 x2 x6 x7 σ = some res) : J (wfm ad cs) X 9 0 0 σ 127 [(0, .ref (ad 18)), (1, .int x1), (2, .int x2), (6, .int x6), (7, .long x7)] [] := by
  unfold MD_pay_c127 at hf
  refine j_aload_n C 0 rfl rfl d_MD_pay_127 ?_
  refine j_aload_n C 0 rfl rfl d_MD_pay_128 ?_
  refine g_MD_me C (List.mem_cons_of_mem _ wd_4_42) d_MD_pay_129 ?_
  refine j_aload_n C 0 rfl rfl d_MD_pay_132 ?_
  refine g_MD_spendAsset C (List.mem_cons_of_mem _ wd_4_44) d_MD_pay_133 ?_
  refine j_lload C 4 rfl d_MD_pay_136 ?_
  refine j_lneg C d_MD_pay_138 ?_
  obtain ⟨σ139, h139, hf⟩ := o_b1 hf
  refine j_callV (ci := 10) (Cn := "TollLedgerModel") (T := T_MD) (N := 39) C [.int (gI σ 25), .int (gI σ 27), .long (-x7)] [] (m_MD_change _ _ _ _ _ (gI σ 25) (gI σ 27) (-x7) σ h139) (gdV wd_5_5 wd_5_7 wp_32 wd_1_11 wc_MD_change) hy_MD_change rfl ⟨18, rfl⟩ rfl rfl (by decide) (by decide) (by decide) (by decide) (Nat.le_of_ble_eq_true rfl) d_MD_pay_139 (j_kV (σ1 := σ139) ?_)
  refine j_aload_n C 0 rfl rfl d_MD_pay_142 ?_
  refine j_iload_n C 1 rfl rfl d_MD_pay_143 ?_
  refine j_iload_n C 2 rfl rfl d_MD_pay_144 ?_
  refine j_iload C 3 rfl d_MD_pay_145 ?_
  refine j_i2l C d_MD_pay_147 ?_
  obtain ⟨σ148, h148, hf⟩ := o_b1 hf
  refine j_callV (ci := 10) (Cn := "TollLedgerModel") (T := T_MD) (N := 39) C [.int x1, .int x2, .long x6.toInt64] [] (m_MD_change _ _ _ _ _ x1 x2 x6.toInt64 σ139 h148) (gdV wd_5_5 wd_5_7 wp_32 wd_1_11 wc_MD_change) hy_MD_change rfl ⟨18, rfl⟩ rfl rfl (by decide) (by decide) (by decide) (by decide) (Nat.le_of_ble_eq_true rfl) d_MD_pay_148 (j_kV (σ1 := σ148) ?_)
  refine j_iconst C (v := 0) (by decide) d_MD_pay_151 ?_
  have hf := Option.some.inj hf
  subst hf
  exact j_iret C Rt (Nat.zero_le _) (Nat.zero_le _) d_MD_pay_152 ⟨rfl, rfl⟩
def MD_pay_b86 (kb86 : Int32 → Int32 → Int32 → Int32 → ST → Option (Int32 × ST)) (x1 : Int32) (x2 : Int32) (x5 : Int32) (x6 : Int32) (σ : ST) : Option (Int32 × ST) :=
  if x6 < x5 then (some ((24 : Int32), σ))
  else (bd2 (MD_spending x1 x2 x6 σ) fun r98 σ98 =>
  if (lg_cmp r98 (0 : Int64)) < 0 then (kb86 x1 x2 x5 (x6 + (-1)) σ98)
  else (if (gI σ98 27) = x2 then (MD_pay_c127 x1 x2 x6 r98 σ98)
  else (bd1 (MD_carryOut (gI σ98 27) x2 σ98) fun σ124 =>
  MD_pay_c127 x1 x2 x6 r98 σ124)))
set_option maxRecDepth 100000 in
set_option maxHeartbeats 4000000 in
theorem w_MD_pay_b86 {X : JX} (C : JC X l D (ttf cs) eE b_MD_pay "TollLedgerModel" 9 (Cond.code y_MD_pay b_MD_pay 9 r_MD_pay :: BIG) 7 182 0 0) {res : Int32 × ST} (Rt : JR X (wfm ad cs) 0 0 (PI res.1 res.2) r_MD_pay "pay") {kb86 : Int32 → Int32 → Int32 → Int32 → ST → Option (Int32 × ST)} (hk86 : ∀ (x1 : Int32) (x2 : Int32) (x5 : Int32) (x6 : Int32) (σ : ST), kb86 x1 x2 x5 x6 σ = some res → J (wfm ad cs) X 9 0 0 σ 86 [(0, .ref (ad 18)), (1, .int x1), (2, .int x2), (5, .int x5), (6, .int x6)] []) (x1 : Int32) (x2 : Int32) (x5 : Int32) (x6 : Int32) (σ : ST) (hf : MD_pay_b86 kb86 x1 x2 x5 x6 σ = some res) : J (wfm ad cs) X 9 0 0 σ 86 [(0, .ref (ad 18)), (1, .int x1), (2, .int x2), (5, .int x5), (6, .int x6)] [] := by
  unfold MD_pay_b86 at hf
  refine j_iload C 4 rfl d_MD_pay_86 ?_
  refine j_iload C 3 rfl d_MD_pay_88 ?_
  refine j_icmp_lt C d_MD_pay_90 rfl (fun c90 => ?_) (fun c90 => ?_)
  · have hf := o_it c90 hf
    refine j_bipush C (v := 24) (by decide) d_MD_pay_159 ?_
    have hf := Option.some.inj hf
    subst hf
    exact j_iret C Rt (Nat.zero_le _) (Nat.zero_le _) d_MD_pay_161 ⟨rfl, rfl⟩
  · have hf := o_if c90 hf
    refine j_aload_n C 0 rfl rfl d_MD_pay_93 ?_
    refine j_iload_n C 1 rfl rfl d_MD_pay_94 ?_
    refine j_iload_n C 2 rfl rfl d_MD_pay_95 ?_
    refine j_iload C 4 rfl d_MD_pay_96 ?_
    obtain ⟨r98, σ98, h98, hf⟩ := o_b2 hf
    refine j_callV (ci := 10) (Cn := "TollLedgerModel") (T := T_MD) (N := 39) C [.int x1, .int x2, .int x6] [] (m_MD_spending _ _ _ _ _ x1 x2 x6 σ h98) (gdV wd_4_202 wd_4_204 wp_22 wd_1_11 wc_MD_spending) hy_MD_spending rfl ⟨18, rfl⟩ rfl rfl (by decide) (by decide) (by decide) (by decide) (Nat.le_of_ble_eq_true rfl) d_MD_pay_98 (j_kL (r := r98) (σ1 := σ98) ?_)
    refine j_lstore C (by decide) (loc' := [(7, .long r98), (0, .ref (ad 18)), (1, .int x1), (2, .int x2), (5, .int x5), (6, .int x6)]) rfl d_MD_pay_101 ?_
    refine j_lload C 0 rfl d_MD_pay_103 ?_
    refine j_lconst C (v := 0) (by decide) d_MD_pay_105 ?_
    refine j_lcmp C d_MD_pay_106 ?_
    refine j_if_lt C d_MD_pay_107 rfl (fun c107 => ?_) (fun c107 => ?_)
    · have hf := o_it c107 hf
      refine j_iinc C 5 rfl (v := (x6 + (-1))) (inc_m1 _) (by decide) (loc' := [(6, .int (x6 + (-1))), (7, .long r98), (0, .ref (ad 18)), (1, .int x1), (2, .int x2), (5, .int x5)]) rfl d_MD_pay_153 ?_
      refine j_goto C d_MD_pay_156 rfl ?_
      refine j_sub [2, 3, 4, 5, 0] rfl ?_
      exact hk86 x1 x2 x5 (x6 + (-1)) σ98 hf
    · have hf := o_if c107 hf
      refine j_aload_n C 1 rfl rfl d_MD_pay_110 ?_
      refine g_MD_spendAsset C (List.mem_cons_of_mem _ wd_4_44) d_MD_pay_111 ?_
      refine j_iload_n C 3 rfl rfl d_MD_pay_114 ?_
      refine j_icmp_eq C d_MD_pay_115 rfl (fun c115 => ?_) (fun c115 => ?_)
      · have hf := o_it c115 hf
        refine j_sub [1, 2, 3, 5, 0] rfl ?_
        exact w_MD_pay_c127 C Rt  x1 x2 x6 r98 σ98 hf
      · have hf := o_if c115 hf
        refine j_aload_n C 1 rfl rfl d_MD_pay_118 ?_
        refine j_aload_n C 1 rfl rfl d_MD_pay_119 ?_
        refine g_MD_spendAsset C (List.mem_cons_of_mem _ wd_4_44) d_MD_pay_120 ?_
        refine j_iload_n C 3 rfl rfl d_MD_pay_123 ?_
        obtain ⟨σ124, h124, hf⟩ := o_b1 hf
        refine j_callV (ci := 10) (Cn := "TollLedgerModel") (T := T_MD) (N := 39) C [.int (gI σ98 27), .int x2] [] (m_MD_carryOut _ _ _ _ _ (gI σ98 27) x2 σ98 h124) (gdV wd_5_1 wd_5_3 wp_31 wd_1_11 wc_MD_carryOut) hy_MD_carryOut rfl ⟨18, rfl⟩ rfl rfl (by decide) (by decide) (by decide) (by decide) (Nat.le_of_ble_eq_true rfl) d_MD_pay_124 (j_kV (σ1 := σ124) ?_)
        refine j_sub [1, 2, 3, 5, 0] rfl ?_
        exact w_MD_pay_c127 C Rt  x1 x2 x6 r98 σ124 hf
def MD_pay_L86 : Nat → Int32 → Int32 → Int32 → Int32 → ST → Option (Int32 × ST)
  | 0, _, _, _, _, _ => none
  | N + 1, x1, x2, x5, x6, σ => MD_pay_b86 (fun x1 x2 x5 x6 σ => MD_pay_L86 N x1 x2 x5 x6 σ) x1 x2 x5 x6 σ
theorem w_MD_pay_L86 {X : JX} (C : JC X l D (ttf cs) eE b_MD_pay "TollLedgerModel" 9 (Cond.code y_MD_pay b_MD_pay 9 r_MD_pay :: BIG) 7 182 0 0) {res : Int32 × ST} (Rt : JR X (wfm ad cs) 0 0 (PI res.1 res.2) r_MD_pay "pay")  (N : Nat) (x1 : Int32) (x2 : Int32) (x5 : Int32) (x6 : Int32) (σ : ST) (hf : MD_pay_L86 N x1 x2 x5 x6 σ = some res) : J (wfm ad cs) X 9 0 0 σ 86 [(0, .ref (ad 18)), (1, .int x1), (2, .int x2), (5, .int x5), (6, .int x6)] [] := by
  induction N generalizing x1 x2 x5 x6 σ with
  | zero => exact nomatch hf
  | succ N ih => exact w_MD_pay_b86 C Rt  (fun x1 x2 x5 x6 σ h => ih x1 x2 x5 x6 σ h) x1 x2 x5 x6 σ hf
def MD_pay_c44 (x1 : Int32) (x2 : Int32) (x3 : Int32) (s1 : Int32) (σ : ST) : Option (Int32 × ST) :=
  bd2 (MD_begin s1 σ) fun r44 σ44 =>
  if r44 = 0 then (if x1 < 0 ∨ 6 ≤ x1.toNatClampNeg then none else
  if (gA σ44 8 x1.toNatClampNeg) = 0 then (some ((21 : Int32), σ44))
  else (if (gI σ44 29) = 0 then (MD_pay_L86 FU x1 x2 x3 x3 σ44)
  else (MD_pay_L86 FU x1 x2 (1 : Int32) x3 σ44)))
  else (some (r44, σ44))
set_option maxRecDepth 100000 in
set_option maxHeartbeats 4000000 in
theorem w_MD_pay_c44 {X : JX} (C : JC X l D (ttf cs) eE b_MD_pay "TollLedgerModel" 9 (Cond.code y_MD_pay b_MD_pay 9 r_MD_pay :: BIG) 7 182 0 0) {res : Int32 × ST} (Rt : JR X (wfm ad cs) 0 0 (PI res.1 res.2) r_MD_pay "pay")  (x1 : Int32) (x2 : Int32) (x3 : Int32) (s1 : Int32) (σ : ST) (hf : MD_pay_c44 x1 x2 x3 s1 σ = some res) : J (wfm ad cs) X 9 0 0 σ 44 [(0, .ref (ad 18)), (1, .int x1), (2, .int x2), (3, .int x3)] [.int s1, .ref (ad 18)] := by
  unfold MD_pay_c44 at hf
  obtain ⟨r44, σ44, h44, hf⟩ := o_b2 hf
  refine j_callV (ci := 10) (Cn := "TollLedgerModel") (T := T_MD) (N := 39) C [.int s1] [] (m_MD_begin _ _ _ _ _ s1 σ h44) (gdV wd_4_156 wd_4_158 wp_17 wd_1_11 wc_MD_begin) hy_MD_begin rfl ⟨18, rfl⟩ rfl rfl (by decide) (by decide) (by decide) (by decide) (Nat.le_of_ble_eq_true rfl) d_MD_pay_44 (j_kI (r := r44) (σ1 := σ44) ?_)
  refine j_istore C (by decide) (loc' := [(4, .int r44), (0, .ref (ad 18)), (1, .int x1), (2, .int x2), (3, .int x3)]) rfl d_MD_pay_47 ?_
  refine j_iload C 0 rfl d_MD_pay_49 ?_
  refine j_if_eq C d_MD_pay_51 rfl (fun c51 => ?_) (fun c51 => ?_)
  · have hf := o_it c51 hf
    refine j_aload_n C 1 rfl rfl d_MD_pay_57 ?_
    refine g_MD_exists C (List.mem_cons_of_mem _ wd_4_19) d_MD_pay_58 ?_
    refine j_iload_n C 2 rfl rfl d_MD_pay_61 ?_
    obtain ⟨g62, hf⟩ := o_gn hf
    refine la_m_exists C g62 d_MD_pay_62 ?_
    refine j_if_ne C d_MD_pay_63 rfl (fun c63 => ?_) (fun c63 => ?_)
    · have hf := o_if c63 hf
      refine j_aload_n C 1 rfl rfl d_MD_pay_69 ?_
      refine g_MD_partly C (List.mem_cons_of_mem _ wd_4_46) d_MD_pay_70 ?_
      refine j_if_eq C d_MD_pay_73 rfl (fun c73 => ?_) (fun c73 => ?_)
      · have hf := o_it c73 hf
        refine j_iload_n C 4 rfl rfl d_MD_pay_80 ?_
        refine j_istore C (by decide) (loc' := [(5, .int x3), (4, .int r44), (0, .ref (ad 18)), (1, .int x1), (2, .int x2), (3, .int x3)]) rfl d_MD_pay_81 ?_
        refine j_iload_n C 5 rfl rfl d_MD_pay_83 ?_
        refine j_istore C (by decide) (loc' := [(6, .int x3), (5, .int x3), (4, .int r44), (0, .ref (ad 18)), (1, .int x1), (2, .int x2), (3, .int x3)]) rfl d_MD_pay_84 ?_
        refine j_sub [3, 4, 5, 1, 0] rfl ?_
        exact w_MD_pay_L86 C Rt  FU x1 x2 x3 x3 σ44 hf
      · have hf := o_if c73 hf
        refine j_iconst C (v := 1) (by decide) d_MD_pay_76 ?_
        refine j_goto C d_MD_pay_77 rfl ?_
        refine j_istore C (by decide) (loc' := [(5, .int (1 : Int32)), (4, .int r44), (0, .ref (ad 18)), (1, .int x1), (2, .int x2), (3, .int x3)]) rfl d_MD_pay_81 ?_
        refine j_iload_n C 5 rfl rfl d_MD_pay_83 ?_
        refine j_istore C (by decide) (loc' := [(6, .int x3), (5, .int (1 : Int32)), (4, .int r44), (0, .ref (ad 18)), (1, .int x1), (2, .int x2), (3, .int x3)]) rfl d_MD_pay_84 ?_
        refine j_sub [3, 4, 5, 1, 0] rfl ?_
        exact w_MD_pay_L86 C Rt  FU x1 x2 (1 : Int32) x3 σ44 hf
    · have hf := o_it c63 hf
      refine j_bipush C (v := 21) (by decide) d_MD_pay_66 ?_
      have hf := Option.some.inj hf
      subst hf
      exact j_iret C Rt (Nat.zero_le _) (Nat.zero_le _) d_MD_pay_68 ⟨rfl, rfl⟩
  · have hf := o_if c51 hf
    refine j_iload C 0 rfl d_MD_pay_54 ?_
    have hf := Option.some.inj hf
    subst hf
    exact j_iret C Rt (Nat.zero_le _) (Nat.zero_le _) d_MD_pay_56 ⟨rfl, rfl⟩
def MD_pay (x1 : Int32) (x2 : Int32) (x3 : Int32) (σ : ST) : Option (Int32 × ST) :=
  bd1 (MD_isAccount x1) fun r2 =>
  if r2 = 0 then (MD_pay_c44 x1 x2 x3 (0 : Int32) σ)
  else (if x1 = (gI σ 25) then (MD_pay_c44 x1 x2 x3 (0 : Int32) σ)
  else (if x2 < (1 : Int32) then (MD_pay_c44 x1 x2 x3 (0 : Int32) σ)
  else (if (12 : Int32) < x2 then (MD_pay_c44 x1 x2 x3 (0 : Int32) σ)
  else (if x3 < (1 : Int32) then (MD_pay_c44 x1 x2 x3 (0 : Int32) σ)
  else (if (400 : Int32) < x3 then (MD_pay_c44 x1 x2 x3 (0 : Int32) σ)
  else (MD_pay_c44 x1 x2 x3 (1 : Int32) σ))))))
set_option maxRecDepth 100000 in
set_option maxHeartbeats 4000000 in
theorem m_MD_pay (l : Launch) (D : va_G) (ad : Nat → Nat) (cs : Nat → ClassId) (eE : Nat × Nat) (x1 : Int32) (x2 : Int32) (x3 : Int32) (σ : ST) {res : Int32 × ST} (hf : MD_pay x1 x2 x3 σ = some res) : MS l y_MD_pay (Cond.code y_MD_pay b_MD_pay 9 r_MD_pay :: BIG) 7 182 0 0 (wfm ad cs) D (ttf cs) eE [.ref (ad 18), .int x1, .int x2, .int x3] σ (PI res.1 res.2) := by
  refine MS.of (cc := b_MD_pay) (maxL := 9) (ret := r_MD_pay) (by decide) rfl (Nat.le_of_ble_eq_true rfl) (loc := [(0, .ref (ad 18)), (1, .int x1), (2, .int x2), (3, .int x3)]) rfl (fun X C Rt => ?_)
  unfold MD_pay at hf
  refine j_aload_n C 0 rfl rfl d_MD_pay_0 ?_
  refine j_iload_n C 1 rfl rfl d_MD_pay_1 ?_
  obtain ⟨r2, h2, hf⟩ := o_b1 hf
  refine j_callS C [.int x1] [.ref (ad 18)] (m_MD_isAccount _ _ _ _ _ x1 σ h2) (gdS wd_4_142 wd_4_143 wd_1_11 wc_MD_isAccount) hy_MD_isAccount rfl rfl (by decide) (by decide) (by decide) (by decide) (Nat.le_of_ble_eq_true rfl) d_MD_pay_2 (j_kI (r := r2) (σ1 := σ) ?_)
  refine j_if_eq C d_MD_pay_5 rfl (fun c5 => ?_) (fun c5 => ?_)
  · have hf := o_it c5 hf
    refine j_iconst C (v := 0) (by decide) d_MD_pay_43 ?_
    exact w_MD_pay_c44 C Rt  x1 x2 x3 (0 : Int32) σ hf
  · have hf := o_if c5 hf
    refine j_iload_n C 1 rfl rfl d_MD_pay_8 ?_
    refine j_aload_n C 0 rfl rfl d_MD_pay_9 ?_
    refine g_MD_me C (List.mem_cons_of_mem _ wd_4_42) d_MD_pay_10 ?_
    refine j_icmp_eq C d_MD_pay_13 rfl (fun c13 => ?_) (fun c13 => ?_)
    · have hf := o_it c13 hf
      refine j_iconst C (v := 0) (by decide) d_MD_pay_43 ?_
      exact w_MD_pay_c44 C Rt  x1 x2 x3 (0 : Int32) σ hf
    · have hf := o_if c13 hf
      refine j_iload_n C 2 rfl rfl d_MD_pay_16 ?_
      refine j_iconst C (v := 1) (by decide) d_MD_pay_17 ?_
      refine j_icmp_lt C d_MD_pay_18 rfl (fun c18 => ?_) (fun c18 => ?_)
      · have hf := o_it c18 hf
        refine j_iconst C (v := 0) (by decide) d_MD_pay_43 ?_
        exact w_MD_pay_c44 C Rt  x1 x2 x3 (0 : Int32) σ hf
      · have hf := o_if c18 hf
        refine j_iload_n C 2 rfl rfl d_MD_pay_21 ?_
        refine j_bipush C (v := 12) (by decide) d_MD_pay_22 ?_
        refine j_icmp_gt C d_MD_pay_24 rfl (fun c24 => ?_) (fun c24 => ?_)
        · have hf := o_it c24 hf
          refine j_iconst C (v := 0) (by decide) d_MD_pay_43 ?_
          exact w_MD_pay_c44 C Rt  x1 x2 x3 (0 : Int32) σ hf
        · have hf := o_if c24 hf
          refine j_iload_n C 3 rfl rfl d_MD_pay_27 ?_
          refine j_iconst C (v := 1) (by decide) d_MD_pay_28 ?_
          refine j_icmp_lt C d_MD_pay_29 rfl (fun c29 => ?_) (fun c29 => ?_)
          · have hf := o_it c29 hf
            refine j_iconst C (v := 0) (by decide) d_MD_pay_43 ?_
            exact w_MD_pay_c44 C Rt  x1 x2 x3 (0 : Int32) σ hf
          · have hf := o_if c29 hf
            refine j_iload_n C 3 rfl rfl d_MD_pay_32 ?_
            refine j_sipush C (v := 400) (by decide) d_MD_pay_33 ?_
            refine j_icmp_gt C d_MD_pay_36 rfl (fun c36 => ?_) (fun c36 => ?_)
            · have hf := o_it c36 hf
              refine j_iconst C (v := 0) (by decide) d_MD_pay_43 ?_
              exact w_MD_pay_c44 C Rt  x1 x2 x3 (0 : Int32) σ hf
            · have hf := o_if c36 hf
              refine j_iconst C (v := 1) (by decide) d_MD_pay_39 ?_
              refine j_goto C d_MD_pay_40 rfl ?_
              exact w_MD_pay_c44 C Rt  x1 x2 x3 (1 : Int32) σ hf
theorem d_MD_rate_0 : decode b_MD_rate 0 = .ok (.aload_n 0, 1) := by decide +kernel
theorem d_MD_rate_1 : decode b_MD_rate 1 = .ok (.iload_n 1, 1) := by decide +kernel
theorem d_MD_rate_2 : decode b_MD_rate 2 = .ok (.ifCond .lt 14, 3) := by decide +kernel
theorem d_MD_rate_5 : decode b_MD_rate 5 = .ok (.iload_n 1, 1) := by decide +kernel
theorem d_MD_rate_6 : decode b_MD_rate 6 = .ok (.sipush 200, 3) := by decide +kernel
theorem d_MD_rate_9 : decode b_MD_rate 9 = .ok (.if_icmp .gt 7, 3) := by decide +kernel
theorem d_MD_rate_12 : decode b_MD_rate 12 = .ok (.iconst 1, 1) := by decide +kernel
theorem d_MD_rate_13 : decode b_MD_rate 13 = .ok (.goto 4, 3) := by decide +kernel
theorem d_MD_rate_16 : decode b_MD_rate 16 = .ok (.iconst 0, 1) := by decide +kernel
theorem d_MD_rate_17 : decode b_MD_rate 17 = .ok (.invokevirtual 150, 3) := by decide +kernel
theorem d_MD_rate_20 : decode b_MD_rate 20 = .ok (.istore_n 2, 1) := by decide +kernel
theorem d_MD_rate_21 : decode b_MD_rate 21 = .ok (.iload_n 2, 1) := by decide +kernel
theorem d_MD_rate_22 : decode b_MD_rate 22 = .ok (.ifCond .eq 5, 3) := by decide +kernel
theorem d_MD_rate_25 : decode b_MD_rate 25 = .ok (.iload_n 2, 1) := by decide +kernel
theorem d_MD_rate_26 : decode b_MD_rate 26 = .ok (.ireturn, 1) := by decide +kernel
theorem d_MD_rate_27 : decode b_MD_rate 27 = .ok (.aload_n 0, 1) := by decide +kernel
theorem d_MD_rate_28 : decode b_MD_rate 28 = .ok (.getfield 20, 3) := by decide +kernel
theorem d_MD_rate_31 : decode b_MD_rate 31 = .ok (.aload_n 0, 1) := by decide +kernel
theorem d_MD_rate_32 : decode b_MD_rate 32 = .ok (.getfield 68, 3) := by decide +kernel
theorem d_MD_rate_35 : decode b_MD_rate 35 = .ok (.iload_n 1, 1) := by decide +kernel
theorem d_MD_rate_36 : decode b_MD_rate 36 = .ok (.iastore, 1) := by decide +kernel
theorem d_MD_rate_37 : decode b_MD_rate 37 = .ok (.iconst 0, 1) := by decide +kernel
theorem d_MD_rate_38 : decode b_MD_rate 38 = .ok (.ireturn, 1) := by decide +kernel
def MD_rate_c17 (x1 : Int32) (s1 : Int32) (σ : ST) : Option (Int32 × ST) :=
  bd2 (MD_begin s1 σ) fun r17 σ17 =>
  if r17 = 0 then (if (gI σ17 25) < 0 ∨ 6 ≤ (gI σ17 25).toNatClampNeg then none else
  nmS (sA σ17 11 (gI σ17 25).toNatClampNeg x1) fun σ36 =>
  some ((0 : Int32), σ36))
  else (some (r17, σ17))
set_option maxRecDepth 100000 in
set_option maxHeartbeats 4000000 in
theorem w_MD_rate_c17 {X : JX} (C : JC X l D (ttf cs) eE b_MD_rate "TollLedgerModel" 3 (Cond.code y_MD_rate b_MD_rate 3 r_MD_rate :: BIG) 1 21 0 0) {res : Int32 × ST} (Rt : JR X (wfm ad cs) 0 0 (PI res.1 res.2) r_MD_rate "rate")  (x1 : Int32) (s1 : Int32) (σ : ST) (hf : MD_rate_c17 x1 s1 σ = some res) : J (wfm ad cs) X 3 0 0 σ 17 [(0, .ref (ad 18)), (1, .int x1)] [.int s1, .ref (ad 18)] := by
  unfold MD_rate_c17 at hf
  obtain ⟨r17, σ17, h17, hf⟩ := o_b2 hf
  refine j_callV (ci := 10) (Cn := "TollLedgerModel") (T := T_MD) (N := 39) C [.int s1] [] (m_MD_begin _ _ _ _ _ s1 σ h17) (gdV wd_4_156 wd_4_158 wp_17 wd_1_11 wc_MD_begin) hy_MD_begin rfl ⟨18, rfl⟩ rfl rfl (by decide) (by decide) (by decide) (by decide) (Nat.le_of_ble_eq_true rfl) d_MD_rate_17 (j_kI (r := r17) (σ1 := σ17) ?_)
  refine j_istore_n C rfl (by decide) (loc' := [(2, .int r17), (0, .ref (ad 18)), (1, .int x1)]) rfl d_MD_rate_20 ?_
  refine j_iload_n C 0 rfl rfl d_MD_rate_21 ?_
  refine j_if_eq C d_MD_rate_22 rfl (fun c22 => ?_) (fun c22 => ?_)
  · have hf := o_it c22 hf
    refine j_aload_n C 1 rfl rfl d_MD_rate_27 ?_
    refine g_MD_rates C (List.mem_cons_of_mem _ wd_4_22) d_MD_rate_28 ?_
    refine j_aload_n C 1 rfl rfl d_MD_rate_31 ?_
    refine g_MD_me C (List.mem_cons_of_mem _ wd_4_42) d_MD_rate_32 ?_
    refine j_iload_n C 2 rfl rfl d_MD_rate_35 ?_
    obtain ⟨g36, hf⟩ := o_gn hf
    obtain ⟨σ36, eσ36, hf⟩ := o_nmS hf
    refine sa_m_rates C g36 eσ36 d_MD_rate_36 ?_
    refine j_iconst C (v := 0) (by decide) d_MD_rate_37 ?_
    have hf := Option.some.inj hf
    subst hf
    exact j_iret C Rt (Nat.zero_le _) (Nat.zero_le _) d_MD_rate_38 ⟨rfl, rfl⟩
  · have hf := o_if c22 hf
    refine j_iload_n C 0 rfl rfl d_MD_rate_25 ?_
    have hf := Option.some.inj hf
    subst hf
    exact j_iret C Rt (Nat.zero_le _) (Nat.zero_le _) d_MD_rate_26 ⟨rfl, rfl⟩
def MD_rate (x1 : Int32) (σ : ST) : Option (Int32 × ST) :=
  if x1 < 0 then (MD_rate_c17 x1 (0 : Int32) σ)
  else (if (200 : Int32) < x1 then (MD_rate_c17 x1 (0 : Int32) σ)
  else (MD_rate_c17 x1 (1 : Int32) σ))
set_option maxRecDepth 100000 in
set_option maxHeartbeats 4000000 in
theorem m_MD_rate (l : Launch) (D : va_G) (ad : Nat → Nat) (cs : Nat → ClassId) (eE : Nat × Nat) (x1 : Int32) (σ : ST) {res : Int32 × ST} (hf : MD_rate x1 σ = some res) : MS l y_MD_rate (Cond.code y_MD_rate b_MD_rate 3 r_MD_rate :: BIG) 1 21 0 0 (wfm ad cs) D (ttf cs) eE [.ref (ad 18), .int x1] σ (PI res.1 res.2) := by
  refine MS.of (cc := b_MD_rate) (maxL := 3) (ret := r_MD_rate) (by decide) rfl (Nat.le_of_ble_eq_true rfl) (loc := [(0, .ref (ad 18)), (1, .int x1)]) rfl (fun X C Rt => ?_)
  unfold MD_rate at hf
  refine j_aload_n C 0 rfl rfl d_MD_rate_0 ?_
  refine j_iload_n C 1 rfl rfl d_MD_rate_1 ?_
  refine j_if_lt C d_MD_rate_2 rfl (fun c2 => ?_) (fun c2 => ?_)
  · have hf := o_it c2 hf
    refine j_iconst C (v := 0) (by decide) d_MD_rate_16 ?_
    exact w_MD_rate_c17 C Rt  x1 (0 : Int32) σ hf
  · have hf := o_if c2 hf
    refine j_iload_n C 1 rfl rfl d_MD_rate_5 ?_
    refine j_sipush C (v := 200) (by decide) d_MD_rate_6 ?_
    refine j_icmp_gt C d_MD_rate_9 rfl (fun c9 => ?_) (fun c9 => ?_)
    · have hf := o_it c9 hf
      refine j_iconst C (v := 0) (by decide) d_MD_rate_16 ?_
      exact w_MD_rate_c17 C Rt  x1 (0 : Int32) σ hf
    · have hf := o_if c9 hf
      refine j_iconst C (v := 1) (by decide) d_MD_rate_12 ?_
      refine j_goto C d_MD_rate_13 rfl ?_
      exact w_MD_rate_c17 C Rt  x1 (1 : Int32) σ hf
theorem d_MD_root_0 : decode b_MD_root 0 = .ok (.bipush 7, 2) := by decide +kernel
theorem d_MD_root_2 : decode b_MD_root 2 = .ok (.istore_n 1, 1) := by decide +kernel
theorem d_MD_root_3 : decode b_MD_root 3 = .ok (.iconst 0, 1) := by decide +kernel
theorem d_MD_root_4 : decode b_MD_root 4 = .ok (.istore_n 2, 1) := by decide +kernel
theorem d_MD_root_5 : decode b_MD_root 5 = .ok (.iload_n 2, 1) := by decide +kernel
theorem d_MD_root_6 : decode b_MD_root 6 = .ok (.iconst 4, 1) := by decide +kernel
theorem d_MD_root_7 : decode b_MD_root 7 = .ok (.if_icmp .ge 71, 3) := by decide +kernel
theorem d_MD_root_10 : decode b_MD_root 10 = .ok (.aload_n 0, 1) := by decide +kernel
theorem d_MD_root_11 : decode b_MD_root 11 = .ok (.getfield 92, 3) := by decide +kernel
theorem d_MD_root_14 : decode b_MD_root 14 = .ok (.iload_n 2, 1) := by decide +kernel
theorem d_MD_root_15 : decode b_MD_root 15 = .ok (.bipush 7, 2) := by decide +kernel
theorem d_MD_root_17 : decode b_MD_root 17 = .ok (.iastore, 1) := by decide +kernel
theorem d_MD_root_18 : decode b_MD_root 18 = .ok (.iconst 0, 1) := by decide +kernel
theorem d_MD_root_19 : decode b_MD_root 19 = .ok (.istore_n 3, 1) := by decide +kernel
theorem d_MD_root_20 : decode b_MD_root 20 = .ok (.iload_n 3, 1) := by decide +kernel
theorem d_MD_root_21 : decode b_MD_root 21 = .ok (.bipush 16, 2) := by decide +kernel
theorem d_MD_root_23 : decode b_MD_root 23 = .ok (.if_icmp .ge 38, 3) := by decide +kernel
theorem d_MD_root_26 : decode b_MD_root 26 = .ok (.aload_n 0, 1) := by decide +kernel
theorem d_MD_root_27 : decode b_MD_root 27 = .ok (.bipush 16, 2) := by decide +kernel
theorem d_MD_root_29 : decode b_MD_root 29 = .ok (.iload_n 2, 1) := by decide +kernel
theorem d_MD_root_30 : decode b_MD_root 30 = .ok (.imul, 1) := by decide +kernel
theorem d_MD_root_31 : decode b_MD_root 31 = .ok (.iload_n 3, 1) := by decide +kernel
theorem d_MD_root_32 : decode b_MD_root 32 = .ok (.iadd, 1) := by decide +kernel
theorem d_MD_root_33 : decode b_MD_root 33 = .ok (.invokevirtual 243, 3) := by decide +kernel
theorem d_MD_root_36 : decode b_MD_root 36 = .ok (.istore 4, 2) := by decide +kernel
theorem d_MD_root_38 : decode b_MD_root 38 = .ok (.aload_n 0, 1) := by decide +kernel
theorem d_MD_root_39 : decode b_MD_root 39 = .ok (.getfield 92, 3) := by decide +kernel
theorem d_MD_root_42 : decode b_MD_root 42 = .ok (.iload_n 2, 1) := by decide +kernel
theorem d_MD_root_43 : decode b_MD_root 43 = .ok (.aload_n 0, 1) := by decide +kernel
theorem d_MD_root_44 : decode b_MD_root 44 = .ok (.getfield 92, 3) := by decide +kernel
theorem d_MD_root_47 : decode b_MD_root 47 = .ok (.iload_n 2, 1) := by decide +kernel
theorem d_MD_root_48 : decode b_MD_root 48 = .ok (.iaload, 1) := by decide +kernel
theorem d_MD_root_49 : decode b_MD_root 49 = .ok (.iload 4, 2) := by decide +kernel
theorem d_MD_root_51 : decode b_MD_root 51 = .ok (.invokestatic 246, 3) := by decide +kernel
theorem d_MD_root_54 : decode b_MD_root 54 = .ok (.iastore, 1) := by decide +kernel
theorem d_MD_root_55 : decode b_MD_root 55 = .ok (.iinc 3 1, 3) := by decide +kernel
theorem d_MD_root_58 : decode b_MD_root 58 = .ok (.goto (-38), 3) := by decide +kernel
theorem d_MD_root_61 : decode b_MD_root 61 = .ok (.iload_n 1, 1) := by decide +kernel
theorem d_MD_root_62 : decode b_MD_root 62 = .ok (.aload_n 0, 1) := by decide +kernel
theorem d_MD_root_63 : decode b_MD_root 63 = .ok (.getfield 92, 3) := by decide +kernel
theorem d_MD_root_66 : decode b_MD_root 66 = .ok (.iload_n 2, 1) := by decide +kernel
theorem d_MD_root_67 : decode b_MD_root 67 = .ok (.iaload, 1) := by decide +kernel
theorem d_MD_root_68 : decode b_MD_root 68 = .ok (.invokestatic 246, 3) := by decide +kernel
theorem d_MD_root_71 : decode b_MD_root 71 = .ok (.istore_n 1, 1) := by decide +kernel
theorem d_MD_root_72 : decode b_MD_root 72 = .ok (.iinc 2 1, 3) := by decide +kernel
theorem d_MD_root_75 : decode b_MD_root 75 = .ok (.goto (-70), 3) := by decide +kernel
theorem d_MD_root_78 : decode b_MD_root 78 = .ok (.iload_n 1, 1) := by decide +kernel
theorem d_MD_root_79 : decode b_MD_root 79 = .ok (.ireturn, 1) := by decide +kernel
def MD_root_b20 (kb5 : Int32 → Int32 → ST → Option (Int32 × ST)) (kb20 : Int32 → Int32 → Int32 → ST → Option (Int32 × ST)) (x1 : Int32) (x2 : Int32) (x3 : Int32) (σ : ST) : Option (Int32 × ST) :=
  if (16 : Int32) ≤ x3 then (if x2 < 0 ∨ 4 ≤ x2.toNatClampNeg then none else
  bd1 (MD_join x1 (gA σ 31 x2.toNatClampNeg)) fun r68 =>
  kb5 r68 (x2 + 1) σ)
  else (bd1 (MD_leaf (((16 : Int32) * x2) + x3) σ) fun r33 =>
  if x2 < 0 ∨ 4 ≤ x2.toNatClampNeg then none else
  bd1 (MD_join (gA σ 31 x2.toNatClampNeg) r33) fun r51 =>
  nmS (sA σ 31 x2.toNatClampNeg r51) fun σ54 =>
  kb20 x1 x2 (x3 + 1) σ54)
set_option maxRecDepth 100000 in
set_option maxHeartbeats 4000000 in
theorem w_MD_root_b20 {X : JX} (C : JC X l D (ttf cs) eE b_MD_root "TollLedgerModel" 5 (Cond.code y_MD_root b_MD_root 5 r_MD_root :: BIG) 3 72 0 0) {res : Int32 × ST} (Rt : JR X (wfm ad cs) 0 0 (PI res.1 res.2) r_MD_root "root") {kb5 : Int32 → Int32 → ST → Option (Int32 × ST)} {kb20 : Int32 → Int32 → Int32 → ST → Option (Int32 × ST)} (hk5 : ∀ (x1 : Int32) (x2 : Int32) (σ : ST), kb5 x1 x2 σ = some res → J (wfm ad cs) X 5 0 0 σ 5 [(0, .ref (ad 18)), (1, .int x1), (2, .int x2)] []) (hk20 : ∀ (x1 : Int32) (x2 : Int32) (x3 : Int32) (σ : ST), kb20 x1 x2 x3 σ = some res → J (wfm ad cs) X 5 0 0 σ 20 [(0, .ref (ad 18)), (1, .int x1), (2, .int x2), (3, .int x3)] []) (x1 : Int32) (x2 : Int32) (x3 : Int32) (σ : ST) (hf : MD_root_b20 kb5 kb20 x1 x2 x3 σ = some res) : J (wfm ad cs) X 5 0 0 σ 20 [(0, .ref (ad 18)), (1, .int x1), (2, .int x2), (3, .int x3)] [] := by
  unfold MD_root_b20 at hf
  refine j_iload_n C 3 rfl rfl d_MD_root_20 ?_
  refine j_bipush C (v := 16) (by decide) d_MD_root_21 ?_
  refine j_icmp_ge C d_MD_root_23 rfl (fun c23 => ?_) (fun c23 => ?_)
  · have hf := o_it c23 hf
    refine j_iload_n C 1 rfl rfl d_MD_root_61 ?_
    refine j_aload_n C 0 rfl rfl d_MD_root_62 ?_
    refine g_MD_inner C (List.mem_cons_of_mem _ wd_4_57) d_MD_root_63 ?_
    refine j_iload_n C 2 rfl rfl d_MD_root_66 ?_
    obtain ⟨g67, hf⟩ := o_gn hf
    refine la_m_inner C g67 d_MD_root_67 ?_
    obtain ⟨r68, h68, hf⟩ := o_b1 hf
    refine j_callS C [.int x1, .int (gA σ 31 x2.toNatClampNeg)] [] (m_MD_join _ _ _ _ _ x1 (gA σ 31 x2.toNatClampNeg) σ h68) (gdS wd_5_96 wd_5_97 wd_1_11 wc_MD_join) hy_MD_join rfl rfl (by decide) (by decide) (by decide) (by decide) (Nat.le_of_ble_eq_true rfl) d_MD_root_68 (j_kI (r := r68) (σ1 := σ) ?_)
    refine j_istore_n C rfl (by decide) (loc' := [(1, .int r68), (0, .ref (ad 18)), (2, .int x2), (3, .int x3)]) rfl d_MD_root_71 ?_
    refine j_iinc C 2 rfl (v := (x2 + 1)) (inc_p1 _) (by decide) (loc' := [(2, .int (x2 + 1)), (1, .int r68), (0, .ref (ad 18)), (3, .int x3)]) rfl d_MD_root_72 ?_
    refine j_goto C d_MD_root_75 rfl ?_
    refine j_sub [2, 1, 0] rfl ?_
    exact hk5 r68 (x2 + 1) σ hf
  · have hf := o_if c23 hf
    refine j_aload_n C 0 rfl rfl d_MD_root_26 ?_
    refine j_bipush C (v := 16) (by decide) d_MD_root_27 ?_
    refine j_iload_n C 2 rfl rfl d_MD_root_29 ?_
    refine j_imul C d_MD_root_30 ?_
    refine j_iload_n C 3 rfl rfl d_MD_root_31 ?_
    refine j_iadd C d_MD_root_32 ?_
    obtain ⟨r33, h33, hf⟩ := o_b1 hf
    refine j_callV (ci := 10) (Cn := "TollLedgerModel") (T := T_MD) (N := 39) C [.int (((16 : Int32) * x2) + x3)] [] (m_MD_leaf _ _ _ _ _ (((16 : Int32) * x2) + x3) σ h33) (gdV wd_5_84 wd_5_86 wp_37 wd_1_11 wc_MD_leaf) hy_MD_leaf rfl ⟨18, rfl⟩ rfl rfl (by decide) (by decide) (by decide) (by decide) (Nat.le_of_ble_eq_true rfl) d_MD_root_33 (j_kI (r := r33) (σ1 := σ) ?_)
    refine j_istore C (by decide) (loc' := [(4, .int r33), (0, .ref (ad 18)), (1, .int x1), (2, .int x2), (3, .int x3)]) rfl d_MD_root_36 ?_
    refine j_aload_n C 1 rfl rfl d_MD_root_38 ?_
    refine g_MD_inner C (List.mem_cons_of_mem _ wd_4_57) d_MD_root_39 ?_
    refine j_iload_n C 3 rfl rfl d_MD_root_42 ?_
    refine j_aload_n C 1 rfl rfl d_MD_root_43 ?_
    refine g_MD_inner C (List.mem_cons_of_mem _ wd_4_57) d_MD_root_44 ?_
    refine j_iload_n C 3 rfl rfl d_MD_root_47 ?_
    obtain ⟨g48, hf⟩ := o_gn hf
    refine la_m_inner C g48 d_MD_root_48 ?_
    refine j_iload C 0 rfl d_MD_root_49 ?_
    obtain ⟨r51, h51, hf⟩ := o_b1 hf
    refine j_callS C [.int (gA σ 31 x2.toNatClampNeg), .int r33] [.int x2, .ref (ad 43)] (m_MD_join _ _ _ _ _ (gA σ 31 x2.toNatClampNeg) r33 σ h51) (gdS wd_5_96 wd_5_97 wd_1_11 wc_MD_join) hy_MD_join rfl rfl (by decide) (by decide) (by decide) (by decide) (Nat.le_of_ble_eq_true rfl) d_MD_root_51 (j_kI (r := r51) (σ1 := σ) ?_)
    obtain ⟨σ54, eσ54, hf⟩ := o_nmS hf
    refine sa_m_inner C g48 eσ54 d_MD_root_54 ?_
    refine j_iinc C 4 rfl (v := (x3 + 1)) (inc_p1 _) (by decide) (loc' := [(3, .int (x3 + 1)), (4, .int r33), (0, .ref (ad 18)), (1, .int x1), (2, .int x2)]) rfl d_MD_root_55 ?_
    refine j_goto C d_MD_root_58 rfl ?_
    refine j_sub [2, 3, 4, 0] rfl ?_
    exact hk20 x1 x2 (x3 + 1) σ54 hf
def MD_root_L20 (kb5 : Int32 → Int32 → ST → Option (Int32 × ST)) : Nat → Int32 → Int32 → Int32 → ST → Option (Int32 × ST)
  | 0, _, _, _, _ => none
  | N + 1, x1, x2, x3, σ => MD_root_b20 kb5 (fun x1 x2 x3 σ => MD_root_L20 kb5 N x1 x2 x3 σ) x1 x2 x3 σ
theorem w_MD_root_L20 {X : JX} (C : JC X l D (ttf cs) eE b_MD_root "TollLedgerModel" 5 (Cond.code y_MD_root b_MD_root 5 r_MD_root :: BIG) 3 72 0 0) {res : Int32 × ST} (Rt : JR X (wfm ad cs) 0 0 (PI res.1 res.2) r_MD_root "root") {kb5 : Int32 → Int32 → ST → Option (Int32 × ST)} (hk5 : ∀ (x1 : Int32) (x2 : Int32) (σ : ST), kb5 x1 x2 σ = some res → J (wfm ad cs) X 5 0 0 σ 5 [(0, .ref (ad 18)), (1, .int x1), (2, .int x2)] []) (N : Nat) (x1 : Int32) (x2 : Int32) (x3 : Int32) (σ : ST) (hf : MD_root_L20 kb5 N x1 x2 x3 σ = some res) : J (wfm ad cs) X 5 0 0 σ 20 [(0, .ref (ad 18)), (1, .int x1), (2, .int x2), (3, .int x3)] [] := by
  induction N generalizing x1 x2 x3 σ with
  | zero => exact nomatch hf
  | succ N ih => exact w_MD_root_b20 C Rt hk5 (fun x1 x2 x3 σ h => ih x1 x2 x3 σ h) x1 x2 x3 σ hf
def MD_root_b5 (kb5 : Int32 → Int32 → ST → Option (Int32 × ST)) (x1 : Int32) (x2 : Int32) (σ : ST) : Option (Int32 × ST) :=
  if (4 : Int32) ≤ x2 then (some (x1, σ))
  else (if x2 < 0 ∨ 4 ≤ x2.toNatClampNeg then none else
  nmS (sA σ 31 x2.toNatClampNeg (7 : Int32)) fun σ17 =>
  MD_root_L20 kb5 FU x1 x2 (0 : Int32) σ17)
set_option maxRecDepth 100000 in
set_option maxHeartbeats 4000000 in
theorem w_MD_root_b5 {X : JX} (C : JC X l D (ttf cs) eE b_MD_root "TollLedgerModel" 5 (Cond.code y_MD_root b_MD_root 5 r_MD_root :: BIG) 3 72 0 0) {res : Int32 × ST} (Rt : JR X (wfm ad cs) 0 0 (PI res.1 res.2) r_MD_root "root") {kb5 : Int32 → Int32 → ST → Option (Int32 × ST)} (hk5 : ∀ (x1 : Int32) (x2 : Int32) (σ : ST), kb5 x1 x2 σ = some res → J (wfm ad cs) X 5 0 0 σ 5 [(0, .ref (ad 18)), (1, .int x1), (2, .int x2)] []) (x1 : Int32) (x2 : Int32) (σ : ST) (hf : MD_root_b5 kb5 x1 x2 σ = some res) : J (wfm ad cs) X 5 0 0 σ 5 [(0, .ref (ad 18)), (1, .int x1), (2, .int x2)] [] := by
  unfold MD_root_b5 at hf
  refine j_iload_n C 2 rfl rfl d_MD_root_5 ?_
  refine j_iconst C (v := 4) (by decide) d_MD_root_6 ?_
  refine j_icmp_ge C d_MD_root_7 rfl (fun c7 => ?_) (fun c7 => ?_)
  · have hf := o_it c7 hf
    refine j_iload_n C 1 rfl rfl d_MD_root_78 ?_
    have hf := Option.some.inj hf
    subst hf
    exact j_iret C Rt (Nat.zero_le _) (Nat.zero_le _) d_MD_root_79 ⟨rfl, rfl⟩
  · have hf := o_if c7 hf
    refine j_aload_n C 0 rfl rfl d_MD_root_10 ?_
    refine g_MD_inner C (List.mem_cons_of_mem _ wd_4_57) d_MD_root_11 ?_
    refine j_iload_n C 2 rfl rfl d_MD_root_14 ?_
    refine j_bipush C (v := 7) (by decide) d_MD_root_15 ?_
    obtain ⟨g17, hf⟩ := o_gn hf
    obtain ⟨σ17, eσ17, hf⟩ := o_nmS hf
    refine sa_m_inner C g17 eσ17 d_MD_root_17 ?_
    refine j_iconst C (v := 0) (by decide) d_MD_root_18 ?_
    refine j_istore_n C rfl (by decide) (loc' := [(3, .int (0 : Int32)), (0, .ref (ad 18)), (1, .int x1), (2, .int x2)]) rfl d_MD_root_19 ?_
    refine j_sub [1, 2, 3, 0] rfl ?_
    exact w_MD_root_L20 C Rt hk5 FU x1 x2 (0 : Int32) σ17 hf
def MD_root_L5 : Nat → Int32 → Int32 → ST → Option (Int32 × ST)
  | 0, _, _, _ => none
  | N + 1, x1, x2, σ => MD_root_b5 (fun x1 x2 σ => MD_root_L5 N x1 x2 σ) x1 x2 σ
theorem w_MD_root_L5 {X : JX} (C : JC X l D (ttf cs) eE b_MD_root "TollLedgerModel" 5 (Cond.code y_MD_root b_MD_root 5 r_MD_root :: BIG) 3 72 0 0) {res : Int32 × ST} (Rt : JR X (wfm ad cs) 0 0 (PI res.1 res.2) r_MD_root "root")  (N : Nat) (x1 : Int32) (x2 : Int32) (σ : ST) (hf : MD_root_L5 N x1 x2 σ = some res) : J (wfm ad cs) X 5 0 0 σ 5 [(0, .ref (ad 18)), (1, .int x1), (2, .int x2)] [] := by
  induction N generalizing x1 x2 σ with
  | zero => exact nomatch hf
  | succ N ih => exact w_MD_root_b5 C Rt  (fun x1 x2 σ h => ih x1 x2 σ h) x1 x2 σ hf
def MD_root (σ : ST) : Option (Int32 × ST) :=
  MD_root_L5 FU (7 : Int32) (0 : Int32) σ
set_option maxRecDepth 100000 in
set_option maxHeartbeats 4000000 in
theorem m_MD_root (l : Launch) (D : va_G) (ad : Nat → Nat) (cs : Nat → ClassId) (eE : Nat × Nat) (σ : ST) {res : Int32 × ST} (hf : MD_root σ = some res) : MS l y_MD_root (Cond.code y_MD_root b_MD_root 5 r_MD_root :: BIG) 3 72 0 0 (wfm ad cs) D (ttf cs) eE [.ref (ad 18)] σ (PI res.1 res.2) := by
  refine MS.of (cc := b_MD_root) (maxL := 5) (ret := r_MD_root) (by decide) rfl (Nat.le_of_ble_eq_true rfl) (loc := [(0, .ref (ad 18))]) rfl (fun X C Rt => ?_)
  unfold MD_root at hf
  refine j_bipush C (v := 7) (by decide) d_MD_root_0 ?_
  refine j_istore_n C rfl (by decide) (loc' := [(1, .int (7 : Int32)), (0, .ref (ad 18))]) rfl d_MD_root_2 ?_
  refine j_iconst C (v := 0) (by decide) d_MD_root_3 ?_
  refine j_istore_n C rfl (by decide) (loc' := [(2, .int (0 : Int32)), (1, .int (7 : Int32)), (0, .ref (ad 18))]) rfl d_MD_root_4 ?_
  refine j_sub [2, 1, 0] rfl ?_
  exact w_MD_root_L5 C Rt  FU (7 : Int32) (0 : Int32) σ hf
theorem d_MD_send_0 : decode b_MD_send 0 = .ok (.aload_n 0, 1) := by decide +kernel
theorem d_MD_send_1 : decode b_MD_send 1 = .ok (.iload_n 1, 1) := by decide +kernel
theorem d_MD_send_2 : decode b_MD_send 2 = .ok (.invokestatic 137, 3) := by decide +kernel
theorem d_MD_send_5 : decode b_MD_send 5 = .ok (.ifCond .eq 26, 3) := by decide +kernel
theorem d_MD_send_8 : decode b_MD_send 8 = .ok (.iload_n 1, 1) := by decide +kernel
theorem d_MD_send_9 : decode b_MD_send 9 = .ok (.aload_n 0, 1) := by decide +kernel
theorem d_MD_send_10 : decode b_MD_send 10 = .ok (.getfield 68, 3) := by decide +kernel
theorem d_MD_send_13 : decode b_MD_send 13 = .ok (.if_icmp .eq 18, 3) := by decide +kernel
theorem d_MD_send_16 : decode b_MD_send 16 = .ok (.iload_n 2, 1) := by decide +kernel
theorem d_MD_send_17 : decode b_MD_send 17 = .ok (.iconst 1, 1) := by decide +kernel
theorem d_MD_send_18 : decode b_MD_send 18 = .ok (.if_icmp .lt 13, 3) := by decide +kernel
theorem d_MD_send_21 : decode b_MD_send 21 = .ok (.iload_n 2, 1) := by decide +kernel
theorem d_MD_send_22 : decode b_MD_send 22 = .ok (.ldc 72, 2) := by decide +kernel
theorem d_MD_send_24 : decode b_MD_send 24 = .ok (.if_icmp .gt 7, 3) := by decide +kernel
theorem d_MD_send_27 : decode b_MD_send 27 = .ok (.iconst 1, 1) := by decide +kernel
theorem d_MD_send_28 : decode b_MD_send 28 = .ok (.goto 4, 3) := by decide +kernel
theorem d_MD_send_31 : decode b_MD_send 31 = .ok (.iconst 0, 1) := by decide +kernel
theorem d_MD_send_32 : decode b_MD_send 32 = .ok (.invokevirtual 150, 3) := by decide +kernel
theorem d_MD_send_35 : decode b_MD_send 35 = .ok (.istore_n 3, 1) := by decide +kernel
theorem d_MD_send_36 : decode b_MD_send 36 = .ok (.iload_n 3, 1) := by decide +kernel
theorem d_MD_send_37 : decode b_MD_send 37 = .ok (.ifCond .eq 5, 3) := by decide +kernel
theorem d_MD_send_40 : decode b_MD_send 40 = .ok (.iload_n 3, 1) := by decide +kernel
theorem d_MD_send_41 : decode b_MD_send 41 = .ok (.ireturn, 1) := by decide +kernel
theorem d_MD_send_42 : decode b_MD_send 42 = .ok (.aload_n 0, 1) := by decide +kernel
theorem d_MD_send_43 : decode b_MD_send 43 = .ok (.getfield 7, 3) := by decide +kernel
theorem d_MD_send_46 : decode b_MD_send 46 = .ok (.iload_n 1, 1) := by decide +kernel
theorem d_MD_send_47 : decode b_MD_send 47 = .ok (.baload, 1) := by decide +kernel
theorem d_MD_send_48 : decode b_MD_send 48 = .ok (.ifCond .ne 12, 3) := by decide +kernel
theorem d_MD_send_51 : decode b_MD_send 51 = .ok (.iload_n 2, 1) := by decide +kernel
theorem d_MD_send_52 : decode b_MD_send 52 = .ok (.bipush 100, 2) := by decide +kernel
theorem d_MD_send_54 : decode b_MD_send 54 = .ok (.if_icmp .ge 6, 3) := by decide +kernel
theorem d_MD_send_57 : decode b_MD_send 57 = .ok (.bipush 21, 2) := by decide +kernel
theorem d_MD_send_59 : decode b_MD_send 59 = .ok (.ireturn, 1) := by decide +kernel
theorem d_MD_send_60 : decode b_MD_send 60 = .ok (.aload_n 0, 1) := by decide +kernel
theorem d_MD_send_61 : decode b_MD_send 61 = .ok (.aload_n 0, 1) := by decide +kernel
theorem d_MD_send_62 : decode b_MD_send 62 = .ok (.getfield 68, 3) := by decide +kernel
theorem d_MD_send_65 : decode b_MD_send 65 = .ok (.iconst 0, 1) := by decide +kernel
theorem d_MD_send_66 : decode b_MD_send 66 = .ok (.invokevirtual 154, 3) := by decide +kernel
theorem d_MD_send_69 : decode b_MD_send 69 = .ok (.iload_n 2, 1) := by decide +kernel
theorem d_MD_send_70 : decode b_MD_send 70 = .ok (.if_icmp .ge 6, 3) := by decide +kernel
theorem d_MD_send_73 : decode b_MD_send 73 = .ok (.bipush 22, 2) := by decide +kernel
theorem d_MD_send_75 : decode b_MD_send 75 = .ok (.ireturn, 1) := by decide +kernel
theorem d_MD_send_76 : decode b_MD_send 76 = .ok (.aload_n 0, 1) := by decide +kernel
theorem d_MD_send_77 : decode b_MD_send 77 = .ok (.getfield 13, 3) := by decide +kernel
theorem d_MD_send_80 : decode b_MD_send 80 = .ok (.aload_n 0, 1) := by decide +kernel
theorem d_MD_send_81 : decode b_MD_send 81 = .ok (.getfield 68, 3) := by decide +kernel
theorem d_MD_send_84 : decode b_MD_send 84 = .ok (.dup2, 1) := by decide +kernel
theorem d_MD_send_85 : decode b_MD_send 85 = .ok (.iaload, 1) := by decide +kernel
theorem d_MD_send_86 : decode b_MD_send 86 = .ok (.iload_n 2, 1) := by decide +kernel
theorem d_MD_send_87 : decode b_MD_send 87 = .ok (.isub, 1) := by decide +kernel
theorem d_MD_send_88 : decode b_MD_send 88 = .ok (.iastore, 1) := by decide +kernel
theorem d_MD_send_89 : decode b_MD_send 89 = .ok (.aload_n 0, 1) := by decide +kernel
theorem d_MD_send_90 : decode b_MD_send 90 = .ok (.getfield 13, 3) := by decide +kernel
theorem d_MD_send_93 : decode b_MD_send 93 = .ok (.iload_n 1, 1) := by decide +kernel
theorem d_MD_send_94 : decode b_MD_send 94 = .ok (.dup2, 1) := by decide +kernel
theorem d_MD_send_95 : decode b_MD_send 95 = .ok (.iaload, 1) := by decide +kernel
theorem d_MD_send_96 : decode b_MD_send 96 = .ok (.iload_n 2, 1) := by decide +kernel
theorem d_MD_send_97 : decode b_MD_send 97 = .ok (.iadd, 1) := by decide +kernel
theorem d_MD_send_98 : decode b_MD_send 98 = .ok (.iastore, 1) := by decide +kernel
theorem d_MD_send_99 : decode b_MD_send 99 = .ok (.aload_n 0, 1) := by decide +kernel
theorem d_MD_send_100 : decode b_MD_send 100 = .ok (.getfield 7, 3) := by decide +kernel
theorem d_MD_send_103 : decode b_MD_send 103 = .ok (.iload_n 1, 1) := by decide +kernel
theorem d_MD_send_104 : decode b_MD_send 104 = .ok (.baload, 1) := by decide +kernel
theorem d_MD_send_105 : decode b_MD_send 105 = .ok (.ifCond .ne 17, 3) := by decide +kernel
theorem d_MD_send_108 : decode b_MD_send 108 = .ok (.aload_n 0, 1) := by decide +kernel
theorem d_MD_send_109 : decode b_MD_send 109 = .ok (.getfield 7, 3) := by decide +kernel
theorem d_MD_send_112 : decode b_MD_send 112 = .ok (.iload_n 1, 1) := by decide +kernel
theorem d_MD_send_113 : decode b_MD_send 113 = .ok (.iconst 1, 1) := by decide +kernel
theorem d_MD_send_114 : decode b_MD_send 114 = .ok (.bastore, 1) := by decide +kernel
theorem d_MD_send_115 : decode b_MD_send 115 = .ok (.aload_n 0, 1) := by decide +kernel
theorem d_MD_send_116 : decode b_MD_send 116 = .ok (.getfield 17, 3) := by decide +kernel
theorem d_MD_send_119 : decode b_MD_send 119 = .ok (.iload_n 1, 1) := by decide +kernel
theorem d_MD_send_120 : decode b_MD_send 120 = .ok (.iconst 1, 1) := by decide +kernel
theorem d_MD_send_121 : decode b_MD_send 121 = .ok (.iastore, 1) := by decide +kernel
theorem d_MD_send_122 : decode b_MD_send 122 = .ok (.iconst 0, 1) := by decide +kernel
theorem d_MD_send_123 : decode b_MD_send 123 = .ok (.ireturn, 1) := by decide +kernel
def MD_send_c60 (x1 : Int32) (x2 : Int32) (σ : ST) : Option (Int32 × ST) :=
  bd1 (MD_fundsIn (gI σ 25) (0 : Int32) σ) fun r66 =>
  if x2 ≤ r66 then (if (gI σ 25) < 0 ∨ 6 ≤ (gI σ 25).toNatClampNeg then none else
  nmS (sA σ 9 (gI σ 25).toNatClampNeg ((gA σ 9 (gI σ 25).toNatClampNeg) - x2)) fun σ88 =>
  if x1 < 0 ∨ 6 ≤ x1.toNatClampNeg then none else
  nmS (sA σ88 9 x1.toNatClampNeg ((gA σ88 9 x1.toNatClampNeg) + x2)) fun σ98 =>
  if (gA σ98 8 x1.toNatClampNeg) = 0 then (nmS (sA σ98 8 x1.toNatClampNeg (1 : Int32)) fun σ114 =>
  nmS (sA σ114 10 x1.toNatClampNeg (1 : Int32)) fun σ121 =>
  some ((0 : Int32), σ121))
  else (some ((0 : Int32), σ98)))
  else (some ((22 : Int32), σ))
set_option maxRecDepth 100000 in
set_option maxHeartbeats 4000000 in
theorem w_MD_send_c60 {X : JX} (C : JC X l D (ttf cs) eE b_MD_send "TollLedgerModel" 4 (Cond.code y_MD_send b_MD_send 4 r_MD_send :: BIG) 4 88 0 0) {res : Int32 × ST} (Rt : JR X (wfm ad cs) 0 0 (PI res.1 res.2) r_MD_send "send")  (x1 : Int32) (x2 : Int32) (σ : ST) (hf : MD_send_c60 x1 x2 σ = some res) : J (wfm ad cs) X 4 0 0 σ 60 [(0, .ref (ad 18)), (1, .int x1), (2, .int x2)] [] := by
  unfold MD_send_c60 at hf
  refine j_aload_n C 0 rfl rfl d_MD_send_60 ?_
  refine j_aload_n C 0 rfl rfl d_MD_send_61 ?_
  refine g_MD_me C (List.mem_cons_of_mem _ wd_4_42) d_MD_send_62 ?_
  refine j_iconst C (v := 0) (by decide) d_MD_send_65 ?_
  obtain ⟨r66, h66, hf⟩ := o_b1 hf
  refine j_callV (ci := 10) (Cn := "TollLedgerModel") (T := T_MD) (N := 39) C [.int (gI σ 25), .int (0 : Int32)] [] (m_MD_fundsIn _ _ _ _ _ (gI σ 25) (0 : Int32) σ h66) (gdV wd_4_160 wd_4_162 wp_18 wd_1_11 wc_MD_fundsIn) hy_MD_fundsIn rfl ⟨18, rfl⟩ rfl rfl (by decide) (by decide) (by decide) (by decide) (Nat.le_of_ble_eq_true rfl) d_MD_send_66 (j_kI (r := r66) (σ1 := σ) ?_)
  refine j_iload_n C 2 rfl rfl d_MD_send_69 ?_
  refine j_icmp_ge C d_MD_send_70 rfl (fun c70 => ?_) (fun c70 => ?_)
  · have hf := o_it c70 hf
    refine j_aload_n C 0 rfl rfl d_MD_send_76 ?_
    refine g_MD_coins C (List.mem_cons_of_mem _ wd_4_20) d_MD_send_77 ?_
    refine j_aload_n C 0 rfl rfl d_MD_send_80 ?_
    refine g_MD_me C (List.mem_cons_of_mem _ wd_4_42) d_MD_send_81 ?_
    refine j_dup2 C rfl rfl d_MD_send_84 ?_
    obtain ⟨g85, hf⟩ := o_gn hf
    refine la_m_coins C g85 d_MD_send_85 ?_
    refine j_iload_n C 2 rfl rfl d_MD_send_86 ?_
    refine j_isub C d_MD_send_87 ?_
    obtain ⟨σ88, eσ88, hf⟩ := o_nmS hf
    refine sa_m_coins C g85 eσ88 d_MD_send_88 ?_
    refine j_aload_n C 0 rfl rfl d_MD_send_89 ?_
    refine g_MD_coins C (List.mem_cons_of_mem _ wd_4_20) d_MD_send_90 ?_
    refine j_iload_n C 1 rfl rfl d_MD_send_93 ?_
    refine j_dup2 C rfl rfl d_MD_send_94 ?_
    obtain ⟨g95, hf⟩ := o_gn hf
    refine la_m_coins C g95 d_MD_send_95 ?_
    refine j_iload_n C 2 rfl rfl d_MD_send_96 ?_
    refine j_iadd C d_MD_send_97 ?_
    obtain ⟨σ98, eσ98, hf⟩ := o_nmS hf
    refine sa_m_coins C g95 eσ98 d_MD_send_98 ?_
    refine j_aload_n C 0 rfl rfl d_MD_send_99 ?_
    refine g_MD_exists C (List.mem_cons_of_mem _ wd_4_19) d_MD_send_100 ?_
    refine j_iload_n C 1 rfl rfl d_MD_send_103 ?_
    refine la_m_exists C g95 d_MD_send_104 ?_
    refine j_if_ne C d_MD_send_105 rfl (fun c105 => ?_) (fun c105 => ?_)
    · have hf := o_if c105 hf
      refine j_iconst C (v := 0) (by decide) d_MD_send_122 ?_
      have hf := Option.some.inj hf
      subst hf
      exact j_iret C Rt (Nat.zero_le _) (Nat.zero_le _) d_MD_send_123 ⟨rfl, rfl⟩
    · have hf := o_it c105 hf
      refine j_aload_n C 0 rfl rfl d_MD_send_108 ?_
      refine g_MD_exists C (List.mem_cons_of_mem _ wd_4_19) d_MD_send_109 ?_
      refine j_iload_n C 1 rfl rfl d_MD_send_112 ?_
      refine j_iconst C (v := 1) (by decide) d_MD_send_113 ?_
      obtain ⟨σ114, eσ114, hf⟩ := o_nmS hf
      refine sa_m_exists C (by decide) g95 eσ114 d_MD_send_114 ?_
      refine j_aload_n C 0 rfl rfl d_MD_send_115 ?_
      refine g_MD_numbers C (List.mem_cons_of_mem _ wd_4_21) d_MD_send_116 ?_
      refine j_iload_n C 1 rfl rfl d_MD_send_119 ?_
      refine j_iconst C (v := 1) (by decide) d_MD_send_120 ?_
      obtain ⟨σ121, eσ121, hf⟩ := o_nmS hf
      refine sa_m_numbers C g95 eσ121 d_MD_send_121 ?_
      refine j_iconst C (v := 0) (by decide) d_MD_send_122 ?_
      have hf := Option.some.inj hf
      subst hf
      exact j_iret C Rt (Nat.zero_le _) (Nat.zero_le _) d_MD_send_123 ⟨rfl, rfl⟩
  · have hf := o_if c70 hf
    refine j_bipush C (v := 22) (by decide) d_MD_send_73 ?_
    have hf := Option.some.inj hf
    subst hf
    exact j_iret C Rt (Nat.zero_le _) (Nat.zero_le _) d_MD_send_75 ⟨rfl, rfl⟩
def MD_send_c32 (x1 : Int32) (x2 : Int32) (s1 : Int32) (σ : ST) : Option (Int32 × ST) :=
  bd2 (MD_begin s1 σ) fun r32 σ32 =>
  if r32 = 0 then (if x1 < 0 ∨ 6 ≤ x1.toNatClampNeg then none else
  if (gA σ32 8 x1.toNatClampNeg) = 0 then (if (100 : Int32) ≤ x2 then (MD_send_c60 x1 x2 σ32)
  else (some ((21 : Int32), σ32)))
  else (MD_send_c60 x1 x2 σ32))
  else (some (r32, σ32))
set_option maxRecDepth 100000 in
set_option maxHeartbeats 4000000 in
theorem w_MD_send_c32 {X : JX} (C : JC X l D (ttf cs) eE b_MD_send "TollLedgerModel" 4 (Cond.code y_MD_send b_MD_send 4 r_MD_send :: BIG) 4 88 0 0) {res : Int32 × ST} (Rt : JR X (wfm ad cs) 0 0 (PI res.1 res.2) r_MD_send "send")  (x1 : Int32) (x2 : Int32) (s1 : Int32) (σ : ST) (hf : MD_send_c32 x1 x2 s1 σ = some res) : J (wfm ad cs) X 4 0 0 σ 32 [(0, .ref (ad 18)), (1, .int x1), (2, .int x2)] [.int s1, .ref (ad 18)] := by
  unfold MD_send_c32 at hf
  obtain ⟨r32, σ32, h32, hf⟩ := o_b2 hf
  refine j_callV (ci := 10) (Cn := "TollLedgerModel") (T := T_MD) (N := 39) C [.int s1] [] (m_MD_begin _ _ _ _ _ s1 σ h32) (gdV wd_4_156 wd_4_158 wp_17 wd_1_11 wc_MD_begin) hy_MD_begin rfl ⟨18, rfl⟩ rfl rfl (by decide) (by decide) (by decide) (by decide) (Nat.le_of_ble_eq_true rfl) d_MD_send_32 (j_kI (r := r32) (σ1 := σ32) ?_)
  refine j_istore_n C rfl (by decide) (loc' := [(3, .int r32), (0, .ref (ad 18)), (1, .int x1), (2, .int x2)]) rfl d_MD_send_35 ?_
  refine j_iload_n C 0 rfl rfl d_MD_send_36 ?_
  refine j_if_eq C d_MD_send_37 rfl (fun c37 => ?_) (fun c37 => ?_)
  · have hf := o_it c37 hf
    refine j_aload_n C 1 rfl rfl d_MD_send_42 ?_
    refine g_MD_exists C (List.mem_cons_of_mem _ wd_4_19) d_MD_send_43 ?_
    refine j_iload_n C 2 rfl rfl d_MD_send_46 ?_
    obtain ⟨g47, hf⟩ := o_gn hf
    refine la_m_exists C g47 d_MD_send_47 ?_
    refine j_if_ne C d_MD_send_48 rfl (fun c48 => ?_) (fun c48 => ?_)
    · have hf := o_if c48 hf
      refine j_sub [1, 2, 3] rfl ?_
      exact w_MD_send_c60 C Rt  x1 x2 σ32 hf
    · have hf := o_it c48 hf
      refine j_iload_n C 3 rfl rfl d_MD_send_51 ?_
      refine j_bipush C (v := 100) (by decide) d_MD_send_52 ?_
      refine j_icmp_ge C d_MD_send_54 rfl (fun c54 => ?_) (fun c54 => ?_)
      · have hf := o_it c54 hf
        refine j_sub [1, 2, 3] rfl ?_
        exact w_MD_send_c60 C Rt  x1 x2 σ32 hf
      · have hf := o_if c54 hf
        refine j_bipush C (v := 21) (by decide) d_MD_send_57 ?_
        have hf := Option.some.inj hf
        subst hf
        exact j_iret C Rt (Nat.zero_le _) (Nat.zero_le _) d_MD_send_59 ⟨rfl, rfl⟩
  · have hf := o_if c37 hf
    refine j_iload_n C 0 rfl rfl d_MD_send_40 ?_
    have hf := Option.some.inj hf
    subst hf
    exact j_iret C Rt (Nat.zero_le _) (Nat.zero_le _) d_MD_send_41 ⟨rfl, rfl⟩
def MD_send (x1 : Int32) (x2 : Int32) (σ : ST) : Option (Int32 × ST) :=
  bd1 (MD_isAccount x1) fun r2 =>
  if r2 = 0 then (MD_send_c32 x1 x2 (0 : Int32) σ)
  else (if x1 = (gI σ 25) then (MD_send_c32 x1 x2 (0 : Int32) σ)
  else (if x2 < (1 : Int32) then (MD_send_c32 x1 x2 (0 : Int32) σ)
  else (if (1000000 : Int32) < x2 then (MD_send_c32 x1 x2 (0 : Int32) σ)
  else (MD_send_c32 x1 x2 (1 : Int32) σ))))
set_option maxRecDepth 100000 in
set_option maxHeartbeats 4000000 in
theorem m_MD_send (l : Launch) (D : va_G) (ad : Nat → Nat) (cs : Nat → ClassId) (eE : Nat × Nat) (x1 : Int32) (x2 : Int32) (σ : ST) {res : Int32 × ST} (hf : MD_send x1 x2 σ = some res) : MS l y_MD_send (Cond.code y_MD_send b_MD_send 4 r_MD_send :: BIG) 4 88 0 0 (wfm ad cs) D (ttf cs) eE [.ref (ad 18), .int x1, .int x2] σ (PI res.1 res.2) := by
  refine MS.of (cc := b_MD_send) (maxL := 4) (ret := r_MD_send) (by decide) rfl (Nat.le_of_ble_eq_true rfl) (loc := [(0, .ref (ad 18)), (1, .int x1), (2, .int x2)]) rfl (fun X C Rt => ?_)
  unfold MD_send at hf
  refine j_aload_n C 0 rfl rfl d_MD_send_0 ?_
  refine j_iload_n C 1 rfl rfl d_MD_send_1 ?_
  obtain ⟨r2, h2, hf⟩ := o_b1 hf
  refine j_callS C [.int x1] [.ref (ad 18)] (m_MD_isAccount _ _ _ _ _ x1 σ h2) (gdS wd_4_142 wd_4_143 wd_1_11 wc_MD_isAccount) hy_MD_isAccount rfl rfl (by decide) (by decide) (by decide) (by decide) (Nat.le_of_ble_eq_true rfl) d_MD_send_2 (j_kI (r := r2) (σ1 := σ) ?_)
  refine j_if_eq C d_MD_send_5 rfl (fun c5 => ?_) (fun c5 => ?_)
  · have hf := o_it c5 hf
    refine j_iconst C (v := 0) (by decide) d_MD_send_31 ?_
    exact w_MD_send_c32 C Rt  x1 x2 (0 : Int32) σ hf
  · have hf := o_if c5 hf
    refine j_iload_n C 1 rfl rfl d_MD_send_8 ?_
    refine j_aload_n C 0 rfl rfl d_MD_send_9 ?_
    refine g_MD_me C (List.mem_cons_of_mem _ wd_4_42) d_MD_send_10 ?_
    refine j_icmp_eq C d_MD_send_13 rfl (fun c13 => ?_) (fun c13 => ?_)
    · have hf := o_it c13 hf
      refine j_iconst C (v := 0) (by decide) d_MD_send_31 ?_
      exact w_MD_send_c32 C Rt  x1 x2 (0 : Int32) σ hf
    · have hf := o_if c13 hf
      refine j_iload_n C 2 rfl rfl d_MD_send_16 ?_
      refine j_iconst C (v := 1) (by decide) d_MD_send_17 ?_
      refine j_icmp_lt C d_MD_send_18 rfl (fun c18 => ?_) (fun c18 => ?_)
      · have hf := o_it c18 hf
        refine j_iconst C (v := 0) (by decide) d_MD_send_31 ?_
        exact w_MD_send_c32 C Rt  x1 x2 (0 : Int32) σ hf
      · have hf := o_if c18 hf
        refine j_iload_n C 2 rfl rfl d_MD_send_21 ?_
        refine j_ldc C (v := 1000000) (List.mem_cons_of_mem _ wd_4_18) d_MD_send_22 ?_
        refine j_icmp_gt C d_MD_send_24 rfl (fun c24 => ?_) (fun c24 => ?_)
        · have hf := o_it c24 hf
          refine j_iconst C (v := 0) (by decide) d_MD_send_31 ?_
          exact w_MD_send_c32 C Rt  x1 x2 (0 : Int32) σ hf
        · have hf := o_if c24 hf
          refine j_iconst C (v := 1) (by decide) d_MD_send_27 ?_
          refine j_goto C d_MD_send_28 rfl ?_
          exact w_MD_send_c32 C Rt  x1 x2 (1 : Int32) σ hf
theorem d_MD_settle_0 : decode b_MD_settle 0 = .ok (.aload_n 0, 1) := by decide +kernel
theorem d_MD_settle_1 : decode b_MD_settle 1 = .ok (.iload_n 1, 1) := by decide +kernel
theorem d_MD_settle_2 : decode b_MD_settle 2 = .ok (.iconst 1, 1) := by decide +kernel
theorem d_MD_settle_3 : decode b_MD_settle 3 = .ok (.if_icmp .lt 7, 3) := by decide +kernel
theorem d_MD_settle_6 : decode b_MD_settle 6 = .ok (.iconst 1, 1) := by decide +kernel
theorem d_MD_settle_7 : decode b_MD_settle 7 = .ok (.goto 4, 3) := by decide +kernel
theorem d_MD_settle_10 : decode b_MD_settle 10 = .ok (.iconst 0, 1) := by decide +kernel
theorem d_MD_settle_11 : decode b_MD_settle 11 = .ok (.invokevirtual 150, 3) := by decide +kernel
theorem d_MD_settle_14 : decode b_MD_settle 14 = .ok (.istore_n 2, 1) := by decide +kernel
theorem d_MD_settle_15 : decode b_MD_settle 15 = .ok (.iload_n 2, 1) := by decide +kernel
theorem d_MD_settle_16 : decode b_MD_settle 16 = .ok (.ifCond .eq 5, 3) := by decide +kernel
theorem d_MD_settle_19 : decode b_MD_settle 19 = .ok (.iload_n 2, 1) := by decide +kernel
theorem d_MD_settle_20 : decode b_MD_settle 20 = .ok (.ireturn, 1) := by decide +kernel
theorem d_MD_settle_21 : decode b_MD_settle 21 = .ok (.aload_n 0, 1) := by decide +kernel
theorem d_MD_settle_22 : decode b_MD_settle 22 = .ok (.iload_n 1, 1) := by decide +kernel
theorem d_MD_settle_23 : decode b_MD_settle 23 = .ok (.invokevirtual 227, 3) := by decide +kernel
theorem d_MD_settle_26 : decode b_MD_settle 26 = .ok (.istore_n 3, 1) := by decide +kernel
theorem d_MD_settle_27 : decode b_MD_settle 27 = .ok (.iload_n 3, 1) := by decide +kernel
theorem d_MD_settle_28 : decode b_MD_settle 28 = .ok (.ifCond .ge 6, 3) := by decide +kernel
theorem d_MD_settle_31 : decode b_MD_settle 31 = .ok (.bipush 26, 2) := by decide +kernel
theorem d_MD_settle_33 : decode b_MD_settle 33 = .ok (.ireturn, 1) := by decide +kernel
theorem d_MD_settle_34 : decode b_MD_settle 34 = .ok (.aload_n 0, 1) := by decide +kernel
theorem d_MD_settle_35 : decode b_MD_settle 35 = .ok (.getfield 230, 3) := by decide +kernel
theorem d_MD_settle_38 : decode b_MD_settle 38 = .ok (.aload_n 0, 1) := by decide +kernel
theorem d_MD_settle_39 : decode b_MD_settle 39 = .ok (.getfield 62, 3) := by decide +kernel
theorem d_MD_settle_42 : decode b_MD_settle 42 = .ok (.iload_n 3, 1) := by decide +kernel
theorem d_MD_settle_43 : decode b_MD_settle 43 = .ok (.iaload, 1) := by decide +kernel
theorem d_MD_settle_44 : decode b_MD_settle 44 = .ok (.if_icmp .ge 6, 3) := by decide +kernel
theorem d_MD_settle_47 : decode b_MD_settle 47 = .ok (.bipush 27, 2) := by decide +kernel
theorem d_MD_settle_49 : decode b_MD_settle 49 = .ok (.ireturn, 1) := by decide +kernel
theorem d_MD_settle_50 : decode b_MD_settle 50 = .ok (.aload_n 0, 1) := by decide +kernel
theorem d_MD_settle_51 : decode b_MD_settle 51 = .ok (.getfield 230, 3) := by decide +kernel
theorem d_MD_settle_54 : decode b_MD_settle 54 = .ok (.aload_n 0, 1) := by decide +kernel
theorem d_MD_settle_55 : decode b_MD_settle 55 = .ok (.getfield 65, 3) := by decide +kernel
theorem d_MD_settle_58 : decode b_MD_settle 58 = .ok (.iload_n 3, 1) := by decide +kernel
theorem d_MD_settle_59 : decode b_MD_settle 59 = .ok (.iaload, 1) := by decide +kernel
theorem d_MD_settle_60 : decode b_MD_settle 60 = .ok (.if_icmp .ge 12, 3) := by decide +kernel
theorem d_MD_settle_63 : decode b_MD_settle 63 = .ok (.aload_n 0, 1) := by decide +kernel
theorem d_MD_settle_64 : decode b_MD_settle 64 = .ok (.getfield 56, 3) := by decide +kernel
theorem d_MD_settle_67 : decode b_MD_settle 67 = .ok (.iload_n 3, 1) := by decide +kernel
theorem d_MD_settle_68 : decode b_MD_settle 68 = .ok (.iaload, 1) := by decide +kernel
theorem d_MD_settle_69 : decode b_MD_settle 69 = .ok (.goto 9, 3) := by decide +kernel
theorem d_MD_settle_72 : decode b_MD_settle 72 = .ok (.aload_n 0, 1) := by decide +kernel
theorem d_MD_settle_73 : decode b_MD_settle 73 = .ok (.getfield 53, 3) := by decide +kernel
theorem d_MD_settle_76 : decode b_MD_settle 76 = .ok (.iload_n 3, 1) := by decide +kernel
theorem d_MD_settle_77 : decode b_MD_settle 77 = .ok (.iaload, 1) := by decide +kernel
theorem d_MD_settle_78 : decode b_MD_settle 78 = .ok (.istore 4, 2) := by decide +kernel
theorem d_MD_settle_80 : decode b_MD_settle 80 = .ok (.aload_n 0, 1) := by decide +kernel
theorem d_MD_settle_81 : decode b_MD_settle 81 = .ok (.getfield 13, 3) := by decide +kernel
theorem d_MD_settle_84 : decode b_MD_settle 84 = .ok (.iload 4, 2) := by decide +kernel
theorem d_MD_settle_86 : decode b_MD_settle 86 = .ok (.dup2, 1) := by decide +kernel
theorem d_MD_settle_87 : decode b_MD_settle 87 = .ok (.iaload, 1) := by decide +kernel
theorem d_MD_settle_88 : decode b_MD_settle 88 = .ok (.aload_n 0, 1) := by decide +kernel
theorem d_MD_settle_89 : decode b_MD_settle 89 = .ok (.getfield 59, 3) := by decide +kernel
theorem d_MD_settle_92 : decode b_MD_settle 92 = .ok (.iload_n 3, 1) := by decide +kernel
theorem d_MD_settle_93 : decode b_MD_settle 93 = .ok (.iaload, 1) := by decide +kernel
theorem d_MD_settle_94 : decode b_MD_settle 94 = .ok (.iadd, 1) := by decide +kernel
theorem d_MD_settle_95 : decode b_MD_settle 95 = .ok (.iastore, 1) := by decide +kernel
theorem d_MD_settle_96 : decode b_MD_settle 96 = .ok (.aload_n 0, 1) := by decide +kernel
theorem d_MD_settle_97 : decode b_MD_settle 97 = .ok (.dup, 1) := by decide +kernel
theorem d_MD_settle_98 : decode b_MD_settle 98 = .ok (.getfield 113, 3) := by decide +kernel
theorem d_MD_settle_101 : decode b_MD_settle 101 = .ok (.iconst 1, 1) := by decide +kernel
theorem d_MD_settle_102 : decode b_MD_settle 102 = .ok (.isub, 1) := by decide +kernel
theorem d_MD_settle_103 : decode b_MD_settle 103 = .ok (.putfield 113, 3) := by decide +kernel
theorem d_MD_settle_106 : decode b_MD_settle 106 = .ok (.iload_n 3, 1) := by decide +kernel
theorem d_MD_settle_107 : decode b_MD_settle 107 = .ok (.istore 5, 2) := by decide +kernel
theorem d_MD_settle_109 : decode b_MD_settle 109 = .ok (.iload 5, 2) := by decide +kernel
theorem d_MD_settle_111 : decode b_MD_settle 111 = .ok (.aload_n 0, 1) := by decide +kernel
theorem d_MD_settle_112 : decode b_MD_settle 112 = .ok (.getfield 113, 3) := by decide +kernel
theorem d_MD_settle_115 : decode b_MD_settle 115 = .ok (.if_icmp .ge 105, 3) := by decide +kernel
theorem d_MD_settle_118 : decode b_MD_settle 118 = .ok (.aload_n 0, 1) := by decide +kernel
theorem d_MD_settle_119 : decode b_MD_settle 119 = .ok (.getfield 50, 3) := by decide +kernel
theorem d_MD_settle_122 : decode b_MD_settle 122 = .ok (.iload 5, 2) := by decide +kernel
theorem d_MD_settle_124 : decode b_MD_settle 124 = .ok (.aload_n 0, 1) := by decide +kernel
theorem d_MD_settle_125 : decode b_MD_settle 125 = .ok (.getfield 50, 3) := by decide +kernel
theorem d_MD_settle_128 : decode b_MD_settle 128 = .ok (.iload 5, 2) := by decide +kernel
theorem d_MD_settle_130 : decode b_MD_settle 130 = .ok (.iconst 1, 1) := by decide +kernel
theorem d_MD_settle_131 : decode b_MD_settle 131 = .ok (.iadd, 1) := by decide +kernel
theorem d_MD_settle_132 : decode b_MD_settle 132 = .ok (.iaload, 1) := by decide +kernel
theorem d_MD_settle_133 : decode b_MD_settle 133 = .ok (.iastore, 1) := by decide +kernel
theorem d_MD_settle_134 : decode b_MD_settle 134 = .ok (.aload_n 0, 1) := by decide +kernel
theorem d_MD_settle_135 : decode b_MD_settle 135 = .ok (.getfield 53, 3) := by decide +kernel
theorem d_MD_settle_138 : decode b_MD_settle 138 = .ok (.iload 5, 2) := by decide +kernel
theorem d_MD_settle_140 : decode b_MD_settle 140 = .ok (.aload_n 0, 1) := by decide +kernel
theorem d_MD_settle_141 : decode b_MD_settle 141 = .ok (.getfield 53, 3) := by decide +kernel
theorem d_MD_settle_144 : decode b_MD_settle 144 = .ok (.iload 5, 2) := by decide +kernel
theorem d_MD_settle_146 : decode b_MD_settle 146 = .ok (.iconst 1, 1) := by decide +kernel
theorem d_MD_settle_147 : decode b_MD_settle 147 = .ok (.iadd, 1) := by decide +kernel
theorem d_MD_settle_148 : decode b_MD_settle 148 = .ok (.iaload, 1) := by decide +kernel
theorem d_MD_settle_149 : decode b_MD_settle 149 = .ok (.iastore, 1) := by decide +kernel
theorem d_MD_settle_150 : decode b_MD_settle 150 = .ok (.aload_n 0, 1) := by decide +kernel
theorem d_MD_settle_151 : decode b_MD_settle 151 = .ok (.getfield 56, 3) := by decide +kernel
theorem d_MD_settle_154 : decode b_MD_settle 154 = .ok (.iload 5, 2) := by decide +kernel
theorem d_MD_settle_156 : decode b_MD_settle 156 = .ok (.aload_n 0, 1) := by decide +kernel
theorem d_MD_settle_157 : decode b_MD_settle 157 = .ok (.getfield 56, 3) := by decide +kernel
theorem d_MD_settle_160 : decode b_MD_settle 160 = .ok (.iload 5, 2) := by decide +kernel
theorem d_MD_settle_162 : decode b_MD_settle 162 = .ok (.iconst 1, 1) := by decide +kernel
theorem d_MD_settle_163 : decode b_MD_settle 163 = .ok (.iadd, 1) := by decide +kernel
theorem d_MD_settle_164 : decode b_MD_settle 164 = .ok (.iaload, 1) := by decide +kernel
theorem d_MD_settle_165 : decode b_MD_settle 165 = .ok (.iastore, 1) := by decide +kernel
theorem d_MD_settle_166 : decode b_MD_settle 166 = .ok (.aload_n 0, 1) := by decide +kernel
theorem d_MD_settle_167 : decode b_MD_settle 167 = .ok (.getfield 59, 3) := by decide +kernel
theorem d_MD_settle_170 : decode b_MD_settle 170 = .ok (.iload 5, 2) := by decide +kernel
theorem d_MD_settle_172 : decode b_MD_settle 172 = .ok (.aload_n 0, 1) := by decide +kernel
theorem d_MD_settle_173 : decode b_MD_settle 173 = .ok (.getfield 59, 3) := by decide +kernel
theorem d_MD_settle_176 : decode b_MD_settle 176 = .ok (.iload 5, 2) := by decide +kernel
theorem d_MD_settle_178 : decode b_MD_settle 178 = .ok (.iconst 1, 1) := by decide +kernel
theorem d_MD_settle_179 : decode b_MD_settle 179 = .ok (.iadd, 1) := by decide +kernel
theorem d_MD_settle_180 : decode b_MD_settle 180 = .ok (.iaload, 1) := by decide +kernel
theorem d_MD_settle_181 : decode b_MD_settle 181 = .ok (.iastore, 1) := by decide +kernel
theorem d_MD_settle_182 : decode b_MD_settle 182 = .ok (.aload_n 0, 1) := by decide +kernel
theorem d_MD_settle_183 : decode b_MD_settle 183 = .ok (.getfield 62, 3) := by decide +kernel
theorem d_MD_settle_186 : decode b_MD_settle 186 = .ok (.iload 5, 2) := by decide +kernel
theorem d_MD_settle_188 : decode b_MD_settle 188 = .ok (.aload_n 0, 1) := by decide +kernel
theorem d_MD_settle_189 : decode b_MD_settle 189 = .ok (.getfield 62, 3) := by decide +kernel
theorem d_MD_settle_192 : decode b_MD_settle 192 = .ok (.iload 5, 2) := by decide +kernel
theorem d_MD_settle_194 : decode b_MD_settle 194 = .ok (.iconst 1, 1) := by decide +kernel
theorem d_MD_settle_195 : decode b_MD_settle 195 = .ok (.iadd, 1) := by decide +kernel
theorem d_MD_settle_196 : decode b_MD_settle 196 = .ok (.iaload, 1) := by decide +kernel
theorem d_MD_settle_197 : decode b_MD_settle 197 = .ok (.iastore, 1) := by decide +kernel
theorem d_MD_settle_198 : decode b_MD_settle 198 = .ok (.aload_n 0, 1) := by decide +kernel
theorem d_MD_settle_199 : decode b_MD_settle 199 = .ok (.getfield 65, 3) := by decide +kernel
theorem d_MD_settle_202 : decode b_MD_settle 202 = .ok (.iload 5, 2) := by decide +kernel
theorem d_MD_settle_204 : decode b_MD_settle 204 = .ok (.aload_n 0, 1) := by decide +kernel
theorem d_MD_settle_205 : decode b_MD_settle 205 = .ok (.getfield 65, 3) := by decide +kernel
theorem d_MD_settle_208 : decode b_MD_settle 208 = .ok (.iload 5, 2) := by decide +kernel
theorem d_MD_settle_210 : decode b_MD_settle 210 = .ok (.iconst 1, 1) := by decide +kernel
theorem d_MD_settle_211 : decode b_MD_settle 211 = .ok (.iadd, 1) := by decide +kernel
theorem d_MD_settle_212 : decode b_MD_settle 212 = .ok (.iaload, 1) := by decide +kernel
theorem d_MD_settle_213 : decode b_MD_settle 213 = .ok (.iastore, 1) := by decide +kernel
theorem d_MD_settle_214 : decode b_MD_settle 214 = .ok (.iinc 5 1, 3) := by decide +kernel
theorem d_MD_settle_217 : decode b_MD_settle 217 = .ok (.goto (-108), 3) := by decide +kernel
theorem d_MD_settle_220 : decode b_MD_settle 220 = .ok (.iconst 0, 1) := by decide +kernel
theorem d_MD_settle_221 : decode b_MD_settle 221 = .ok (.ireturn, 1) := by decide +kernel
def MD_settle_b109 (kb109 : Int32 → ST → Option (Int32 × ST)) (x5 : Int32) (σ : ST) : Option (Int32 × ST) :=
  if (gI σ 23) ≤ x5 then (some ((0 : Int32), σ))
  else (if (x5 + (1 : Int32)) < 0 ∨ 6 ≤ (x5 + (1 : Int32)).toNatClampNeg then none else
  if x5 < 0 ∨ 6 ≤ x5.toNatClampNeg then none else
  nmS (sA σ 21 x5.toNatClampNeg (gA σ 21 (x5 + (1 : Int32)).toNatClampNeg)) fun σ133 =>
  nmS (sA σ133 22 x5.toNatClampNeg (gA σ133 22 (x5 + (1 : Int32)).toNatClampNeg)) fun σ149 =>
  nmS (sA σ149 23 x5.toNatClampNeg (gA σ149 23 (x5 + (1 : Int32)).toNatClampNeg)) fun σ165 =>
  nmS (sA σ165 24 x5.toNatClampNeg (gA σ165 24 (x5 + (1 : Int32)).toNatClampNeg)) fun σ181 =>
  nmS (sA σ181 25 x5.toNatClampNeg (gA σ181 25 (x5 + (1 : Int32)).toNatClampNeg)) fun σ197 =>
  nmS (sA σ197 26 x5.toNatClampNeg (gA σ197 26 (x5 + (1 : Int32)).toNatClampNeg)) fun σ213 =>
  kb109 (x5 + 1) σ213)
set_option maxRecDepth 100000 in
set_option maxHeartbeats 4000000 in
theorem w_MD_settle_b109 {X : JX} (C : JC X l D (ttf cs) eE b_MD_settle "TollLedgerModel" 6 (Cond.code y_MD_settle b_MD_settle 6 r_MD_settle :: BIG) 1 23 0 0) {res : Int32 × ST} (Rt : JR X (wfm ad cs) 0 0 (PI res.1 res.2) r_MD_settle "settle") {kb109 : Int32 → ST → Option (Int32 × ST)} (hk109 : ∀ (x5 : Int32) (σ : ST), kb109 x5 σ = some res → J (wfm ad cs) X 6 0 0 σ 109 [(0, .ref (ad 18)), (5, .int x5)] []) (x5 : Int32) (σ : ST) (hf : MD_settle_b109 kb109 x5 σ = some res) : J (wfm ad cs) X 6 0 0 σ 109 [(0, .ref (ad 18)), (5, .int x5)] [] := by
  unfold MD_settle_b109 at hf
  refine j_iload C 1 rfl d_MD_settle_109 ?_
  refine j_aload_n C 0 rfl rfl d_MD_settle_111 ?_
  refine g_MD_deposits C (List.mem_cons_of_mem _ wd_4_34) d_MD_settle_112 ?_
  refine j_icmp_ge C d_MD_settle_115 rfl (fun c115 => ?_) (fun c115 => ?_)
  · have hf := o_it c115 hf
    refine j_iconst C (v := 0) (by decide) d_MD_settle_220 ?_
    have hf := Option.some.inj hf
    subst hf
    exact j_iret C Rt (Nat.zero_le _) (Nat.zero_le _) d_MD_settle_221 ⟨rfl, rfl⟩
  · have hf := o_if c115 hf
    refine j_aload_n C 0 rfl rfl d_MD_settle_118 ?_
    refine g_MD_depositId C (List.mem_cons_of_mem _ wd_4_36) d_MD_settle_119 ?_
    refine j_iload C 1 rfl d_MD_settle_122 ?_
    refine j_aload_n C 0 rfl rfl d_MD_settle_124 ?_
    refine g_MD_depositId C (List.mem_cons_of_mem _ wd_4_36) d_MD_settle_125 ?_
    refine j_iload C 1 rfl d_MD_settle_128 ?_
    refine j_iconst C (v := 1) (by decide) d_MD_settle_130 ?_
    refine j_iadd C d_MD_settle_131 ?_
    obtain ⟨g132, hf⟩ := o_gn hf
    refine la_m_depositId C g132 d_MD_settle_132 ?_
    obtain ⟨g133, hf⟩ := o_gn hf
    obtain ⟨σ133, eσ133, hf⟩ := o_nmS hf
    refine sa_m_depositId C g133 eσ133 d_MD_settle_133 ?_
    refine j_aload_n C 0 rfl rfl d_MD_settle_134 ?_
    refine g_MD_fromOf C (List.mem_cons_of_mem _ wd_4_37) d_MD_settle_135 ?_
    refine j_iload C 1 rfl d_MD_settle_138 ?_
    refine j_aload_n C 0 rfl rfl d_MD_settle_140 ?_
    refine g_MD_fromOf C (List.mem_cons_of_mem _ wd_4_37) d_MD_settle_141 ?_
    refine j_iload C 1 rfl d_MD_settle_144 ?_
    refine j_iconst C (v := 1) (by decide) d_MD_settle_146 ?_
    refine j_iadd C d_MD_settle_147 ?_
    refine la_m_fromOf C g132 d_MD_settle_148 ?_
    obtain ⟨σ149, eσ149, hf⟩ := o_nmS hf
    refine sa_m_fromOf C g133 eσ149 d_MD_settle_149 ?_
    refine j_aload_n C 0 rfl rfl d_MD_settle_150 ?_
    refine g_MD_toOf C (List.mem_cons_of_mem _ wd_4_38) d_MD_settle_151 ?_
    refine j_iload C 1 rfl d_MD_settle_154 ?_
    refine j_aload_n C 0 rfl rfl d_MD_settle_156 ?_
    refine g_MD_toOf C (List.mem_cons_of_mem _ wd_4_38) d_MD_settle_157 ?_
    refine j_iload C 1 rfl d_MD_settle_160 ?_
    refine j_iconst C (v := 1) (by decide) d_MD_settle_162 ?_
    refine j_iadd C d_MD_settle_163 ?_
    refine la_m_toOf C g132 d_MD_settle_164 ?_
    obtain ⟨σ165, eσ165, hf⟩ := o_nmS hf
    refine sa_m_toOf C g133 eσ165 d_MD_settle_165 ?_
    refine j_aload_n C 0 rfl rfl d_MD_settle_166 ?_
    refine g_MD_heldOf C (List.mem_cons_of_mem _ wd_4_39) d_MD_settle_167 ?_
    refine j_iload C 1 rfl d_MD_settle_170 ?_
    refine j_aload_n C 0 rfl rfl d_MD_settle_172 ?_
    refine g_MD_heldOf C (List.mem_cons_of_mem _ wd_4_39) d_MD_settle_173 ?_
    refine j_iload C 1 rfl d_MD_settle_176 ?_
    refine j_iconst C (v := 1) (by decide) d_MD_settle_178 ?_
    refine j_iadd C d_MD_settle_179 ?_
    refine la_m_heldOf C g132 d_MD_settle_180 ?_
    obtain ⟨σ181, eσ181, hf⟩ := o_nmS hf
    refine sa_m_heldOf C g133 eσ181 d_MD_settle_181 ?_
    refine j_aload_n C 0 rfl rfl d_MD_settle_182 ?_
    refine g_MD_afterOf C (List.mem_cons_of_mem _ wd_4_40) d_MD_settle_183 ?_
    refine j_iload C 1 rfl d_MD_settle_186 ?_
    refine j_aload_n C 0 rfl rfl d_MD_settle_188 ?_
    refine g_MD_afterOf C (List.mem_cons_of_mem _ wd_4_40) d_MD_settle_189 ?_
    refine j_iload C 1 rfl d_MD_settle_192 ?_
    refine j_iconst C (v := 1) (by decide) d_MD_settle_194 ?_
    refine j_iadd C d_MD_settle_195 ?_
    refine la_m_afterOf C g132 d_MD_settle_196 ?_
    obtain ⟨σ197, eσ197, hf⟩ := o_nmS hf
    refine sa_m_afterOf C g133 eσ197 d_MD_settle_197 ?_
    refine j_aload_n C 0 rfl rfl d_MD_settle_198 ?_
    refine g_MD_untilOf C (List.mem_cons_of_mem _ wd_4_41) d_MD_settle_199 ?_
    refine j_iload C 1 rfl d_MD_settle_202 ?_
    refine j_aload_n C 0 rfl rfl d_MD_settle_204 ?_
    refine g_MD_untilOf C (List.mem_cons_of_mem _ wd_4_41) d_MD_settle_205 ?_
    refine j_iload C 1 rfl d_MD_settle_208 ?_
    refine j_iconst C (v := 1) (by decide) d_MD_settle_210 ?_
    refine j_iadd C d_MD_settle_211 ?_
    refine la_m_untilOf C g132 d_MD_settle_212 ?_
    obtain ⟨σ213, eσ213, hf⟩ := o_nmS hf
    refine sa_m_untilOf C g133 eσ213 d_MD_settle_213 ?_
    refine j_iinc C 1 rfl (v := (x5 + 1)) (inc_p1 _) (by decide) (loc' := [(5, .int (x5 + 1)), (0, .ref (ad 18))]) rfl d_MD_settle_214 ?_
    refine j_goto C d_MD_settle_217 rfl ?_
    refine j_sub [1, 0] rfl ?_
    exact hk109 (x5 + 1) σ213 hf
def MD_settle_L109 : Nat → Int32 → ST → Option (Int32 × ST)
  | 0, _, _ => none
  | N + 1, x5, σ => MD_settle_b109 (fun x5 σ => MD_settle_L109 N x5 σ) x5 σ
theorem w_MD_settle_L109 {X : JX} (C : JC X l D (ttf cs) eE b_MD_settle "TollLedgerModel" 6 (Cond.code y_MD_settle b_MD_settle 6 r_MD_settle :: BIG) 1 23 0 0) {res : Int32 × ST} (Rt : JR X (wfm ad cs) 0 0 (PI res.1 res.2) r_MD_settle "settle")  (N : Nat) (x5 : Int32) (σ : ST) (hf : MD_settle_L109 N x5 σ = some res) : J (wfm ad cs) X 6 0 0 σ 109 [(0, .ref (ad 18)), (5, .int x5)] [] := by
  induction N generalizing x5 σ with
  | zero => exact nomatch hf
  | succ N ih => exact w_MD_settle_b109 C Rt  (fun x5 σ h => ih x5 σ h) x5 σ hf
def MD_settle_c78 (x3 : Int32) (s0 : Int32) (σ : ST) : Option (Int32 × ST) :=
  if s0 < 0 ∨ 6 ≤ s0.toNatClampNeg then none else
  if x3 < 0 ∨ 6 ≤ x3.toNatClampNeg then none else
  nmS (sA σ 9 s0.toNatClampNeg ((gA σ 9 s0.toNatClampNeg) + (gA σ 24 x3.toNatClampNeg))) fun σ95 =>
  nmS (sI σ95 23 ((gI σ95 23) - (1 : Int32))) fun σ103 =>
  MD_settle_L109 FU x3 σ103
set_option maxRecDepth 100000 in
set_option maxHeartbeats 4000000 in
theorem w_MD_settle_c78 {X : JX} (C : JC X l D (ttf cs) eE b_MD_settle "TollLedgerModel" 6 (Cond.code y_MD_settle b_MD_settle 6 r_MD_settle :: BIG) 1 23 0 0) {res : Int32 × ST} (Rt : JR X (wfm ad cs) 0 0 (PI res.1 res.2) r_MD_settle "settle")  (x3 : Int32) (s0 : Int32) (σ : ST) (hf : MD_settle_c78 x3 s0 σ = some res) : J (wfm ad cs) X 6 0 0 σ 78 [(0, .ref (ad 18)), (3, .int x3)] [.int s0] := by
  unfold MD_settle_c78 at hf
  refine j_istore C (by decide) (loc' := [(4, .int s0), (0, .ref (ad 18)), (3, .int x3)]) rfl d_MD_settle_78 ?_
  refine j_aload_n C 1 rfl rfl d_MD_settle_80 ?_
  refine g_MD_coins C (List.mem_cons_of_mem _ wd_4_20) d_MD_settle_81 ?_
  refine j_iload C 0 rfl d_MD_settle_84 ?_
  refine j_dup2 C rfl rfl d_MD_settle_86 ?_
  obtain ⟨g87, hf⟩ := o_gn hf
  refine la_m_coins C g87 d_MD_settle_87 ?_
  refine j_aload_n C 1 rfl rfl d_MD_settle_88 ?_
  refine g_MD_heldOf C (List.mem_cons_of_mem _ wd_4_39) d_MD_settle_89 ?_
  refine j_iload_n C 2 rfl rfl d_MD_settle_92 ?_
  obtain ⟨g93, hf⟩ := o_gn hf
  refine la_m_heldOf C g93 d_MD_settle_93 ?_
  refine j_iadd C d_MD_settle_94 ?_
  obtain ⟨σ95, eσ95, hf⟩ := o_nmS hf
  refine sa_m_coins C g87 eσ95 d_MD_settle_95 ?_
  refine j_aload_n C 1 rfl rfl d_MD_settle_96 ?_
  refine j_dup C rfl d_MD_settle_97 ?_
  refine g_MD_deposits C (List.mem_cons_of_mem _ wd_4_34) d_MD_settle_98 ?_
  refine j_iconst C (v := 1) (by decide) d_MD_settle_101 ?_
  refine j_isub C d_MD_settle_102 ?_
  obtain ⟨σ103, eσ103, hf⟩ := o_nmS hf
  refine p_MD_deposits C eσ103 (List.mem_cons_of_mem _ wd_4_34) d_MD_settle_103 ?_
  refine j_iload_n C 2 rfl rfl d_MD_settle_106 ?_
  refine j_istore C (by decide) (loc' := [(5, .int x3), (4, .int s0), (0, .ref (ad 18)), (3, .int x3)]) rfl d_MD_settle_107 ?_
  refine j_sub [2, 0] rfl ?_
  exact w_MD_settle_L109 C Rt  FU x3 σ103 hf
def MD_settle_c11 (x1 : Int32) (s1 : Int32) (σ : ST) : Option (Int32 × ST) :=
  bd2 (MD_begin s1 σ) fun r11 σ11 =>
  if r11 = 0 then (bd1 (MD_findDeposit x1 σ11) fun r23 =>
  if 0 ≤ r23 then (if r23 < 0 ∨ 6 ≤ r23.toNatClampNeg then none else
  if (gA σ11 25 r23.toNatClampNeg) ≤ (gI σ11 30) then (if (gA σ11 26 r23.toNatClampNeg) ≤ (gI σ11 30) then (MD_settle_c78 r23 (gA σ11 22 r23.toNatClampNeg) σ11)
  else (MD_settle_c78 r23 (gA σ11 23 r23.toNatClampNeg) σ11))
  else (some ((27 : Int32), σ11)))
  else (some ((26 : Int32), σ11)))
  else (some (r11, σ11))
set_option maxRecDepth 100000 in
set_option maxHeartbeats 4000000 in
theorem w_MD_settle_c11 {X : JX} (C : JC X l D (ttf cs) eE b_MD_settle "TollLedgerModel" 6 (Cond.code y_MD_settle b_MD_settle 6 r_MD_settle :: BIG) 1 23 0 0) {res : Int32 × ST} (Rt : JR X (wfm ad cs) 0 0 (PI res.1 res.2) r_MD_settle "settle")  (x1 : Int32) (s1 : Int32) (σ : ST) (hf : MD_settle_c11 x1 s1 σ = some res) : J (wfm ad cs) X 6 0 0 σ 11 [(0, .ref (ad 18)), (1, .int x1)] [.int s1, .ref (ad 18)] := by
  unfold MD_settle_c11 at hf
  obtain ⟨r11, σ11, h11, hf⟩ := o_b2 hf
  refine j_callV (ci := 10) (Cn := "TollLedgerModel") (T := T_MD) (N := 39) C [.int s1] [] (m_MD_begin _ _ _ _ _ s1 σ h11) (gdV wd_4_156 wd_4_158 wp_17 wd_1_11 wc_MD_begin) hy_MD_begin rfl ⟨18, rfl⟩ rfl rfl (by decide) (by decide) (by decide) (by decide) (Nat.le_of_ble_eq_true rfl) d_MD_settle_11 (j_kI (r := r11) (σ1 := σ11) ?_)
  refine j_istore_n C rfl (by decide) (loc' := [(2, .int r11), (0, .ref (ad 18)), (1, .int x1)]) rfl d_MD_settle_14 ?_
  refine j_iload_n C 0 rfl rfl d_MD_settle_15 ?_
  refine j_if_eq C d_MD_settle_16 rfl (fun c16 => ?_) (fun c16 => ?_)
  · have hf := o_it c16 hf
    refine j_aload_n C 1 rfl rfl d_MD_settle_21 ?_
    refine j_iload_n C 2 rfl rfl d_MD_settle_22 ?_
    obtain ⟨r23, h23, hf⟩ := o_b1 hf
    refine j_callV (ci := 10) (Cn := "TollLedgerModel") (T := T_MD) (N := 39) C [.int x1] [] (m_MD_findDeposit _ _ _ _ _ x1 σ11 h23) (gdV wd_5_37 wd_5_39 wp_36 wd_1_11 wc_MD_findDeposit) hy_MD_findDeposit rfl ⟨18, rfl⟩ rfl rfl (by decide) (by decide) (by decide) (by decide) (Nat.le_of_ble_eq_true rfl) d_MD_settle_23 (j_kI (r := r23) (σ1 := σ11) ?_)
    refine j_istore_n C rfl (by decide) (loc' := [(3, .int r23), (2, .int r11), (0, .ref (ad 18)), (1, .int x1)]) rfl d_MD_settle_26 ?_
    refine j_iload_n C 0 rfl rfl d_MD_settle_27 ?_
    refine j_if_ge C d_MD_settle_28 rfl (fun c28 => ?_) (fun c28 => ?_)
    · have hf := o_it c28 hf
      refine j_aload_n C 2 rfl rfl d_MD_settle_34 ?_
      refine g_MD_clock C (List.mem_cons_of_mem _ wd_4_47) d_MD_settle_35 ?_
      refine j_aload_n C 2 rfl rfl d_MD_settle_38 ?_
      refine g_MD_afterOf C (List.mem_cons_of_mem _ wd_4_40) d_MD_settle_39 ?_
      refine j_iload_n C 0 rfl rfl d_MD_settle_42 ?_
      obtain ⟨g43, hf⟩ := o_gn hf
      refine la_m_afterOf C g43 d_MD_settle_43 ?_
      refine j_icmp_ge C d_MD_settle_44 rfl (fun c44 => ?_) (fun c44 => ?_)
      · have hf := o_it c44 hf
        refine j_aload_n C 2 rfl rfl d_MD_settle_50 ?_
        refine g_MD_clock C (List.mem_cons_of_mem _ wd_4_47) d_MD_settle_51 ?_
        refine j_aload_n C 2 rfl rfl d_MD_settle_54 ?_
        refine g_MD_untilOf C (List.mem_cons_of_mem _ wd_4_41) d_MD_settle_55 ?_
        refine j_iload_n C 0 rfl rfl d_MD_settle_58 ?_
        refine la_m_untilOf C g43 d_MD_settle_59 ?_
        refine j_icmp_ge C d_MD_settle_60 rfl (fun c60 => ?_) (fun c60 => ?_)
        · have hf := o_it c60 hf
          refine j_aload_n C 2 rfl rfl d_MD_settle_72 ?_
          refine g_MD_fromOf C (List.mem_cons_of_mem _ wd_4_37) d_MD_settle_73 ?_
          refine j_iload_n C 0 rfl rfl d_MD_settle_76 ?_
          refine la_m_fromOf C g43 d_MD_settle_77 ?_
          refine j_sub [2, 0] rfl ?_
          exact w_MD_settle_c78 C Rt  r23 (gA σ11 22 r23.toNatClampNeg) σ11 hf
        · have hf := o_if c60 hf
          refine j_aload_n C 2 rfl rfl d_MD_settle_63 ?_
          refine g_MD_toOf C (List.mem_cons_of_mem _ wd_4_38) d_MD_settle_64 ?_
          refine j_iload_n C 0 rfl rfl d_MD_settle_67 ?_
          refine la_m_toOf C g43 d_MD_settle_68 ?_
          refine j_goto C d_MD_settle_69 rfl ?_
          refine j_sub [2, 0] rfl ?_
          exact w_MD_settle_c78 C Rt  r23 (gA σ11 23 r23.toNatClampNeg) σ11 hf
      · have hf := o_if c44 hf
        refine j_bipush C (v := 27) (by decide) d_MD_settle_47 ?_
        have hf := Option.some.inj hf
        subst hf
        exact j_iret C Rt (Nat.zero_le _) (Nat.zero_le _) d_MD_settle_49 ⟨rfl, rfl⟩
    · have hf := o_if c28 hf
      refine j_bipush C (v := 26) (by decide) d_MD_settle_31 ?_
      have hf := Option.some.inj hf
      subst hf
      exact j_iret C Rt (Nat.zero_le _) (Nat.zero_le _) d_MD_settle_33 ⟨rfl, rfl⟩
  · have hf := o_if c16 hf
    refine j_iload_n C 0 rfl rfl d_MD_settle_19 ?_
    have hf := Option.some.inj hf
    subst hf
    exact j_iret C Rt (Nat.zero_le _) (Nat.zero_le _) d_MD_settle_20 ⟨rfl, rfl⟩
def MD_settle (x1 : Int32) (σ : ST) : Option (Int32 × ST) :=
  if x1 < (1 : Int32) then (MD_settle_c11 x1 (0 : Int32) σ)
  else (MD_settle_c11 x1 (1 : Int32) σ)
set_option maxRecDepth 100000 in
set_option maxHeartbeats 4000000 in
theorem m_MD_settle (l : Launch) (D : va_G) (ad : Nat → Nat) (cs : Nat → ClassId) (eE : Nat × Nat) (x1 : Int32) (σ : ST) {res : Int32 × ST} (hf : MD_settle x1 σ = some res) : MS l y_MD_settle (Cond.code y_MD_settle b_MD_settle 6 r_MD_settle :: BIG) 1 23 0 0 (wfm ad cs) D (ttf cs) eE [.ref (ad 18), .int x1] σ (PI res.1 res.2) := by
  refine MS.of (cc := b_MD_settle) (maxL := 6) (ret := r_MD_settle) (by decide) rfl (Nat.le_of_ble_eq_true rfl) (loc := [(0, .ref (ad 18)), (1, .int x1)]) rfl (fun X C Rt => ?_)
  unfold MD_settle at hf
  refine j_aload_n C 0 rfl rfl d_MD_settle_0 ?_
  refine j_iload_n C 1 rfl rfl d_MD_settle_1 ?_
  refine j_iconst C (v := 1) (by decide) d_MD_settle_2 ?_
  refine j_icmp_lt C d_MD_settle_3 rfl (fun c3 => ?_) (fun c3 => ?_)
  · have hf := o_it c3 hf
    refine j_iconst C (v := 0) (by decide) d_MD_settle_10 ?_
    exact w_MD_settle_c11 C Rt  x1 (0 : Int32) σ hf
  · have hf := o_if c3 hf
    refine j_iconst C (v := 1) (by decide) d_MD_settle_6 ?_
    refine j_goto C d_MD_settle_7 rfl ?_
    exact w_MD_settle_c11 C Rt  x1 (1 : Int32) σ hf
theorem d_MD_spend_0 : decode b_MD_spend 0 = .ok (.iload_n 1, 1) := by decide +kernel
theorem d_MD_spend_1 : decode b_MD_spend 1 = .ok (.invokestatic 140, 3) := by decide +kernel
theorem d_MD_spend_4 : decode b_MD_spend 4 = .ok (.ifCond .eq 14, 3) := by decide +kernel
theorem d_MD_spend_7 : decode b_MD_spend 7 = .ok (.iload_n 2, 1) := by decide +kernel
theorem d_MD_spend_8 : decode b_MD_spend 8 = .ok (.iconst 1, 1) := by decide +kernel
theorem d_MD_spend_9 : decode b_MD_spend 9 = .ok (.if_icmp .lt 9, 3) := by decide +kernel
theorem d_MD_spend_12 : decode b_MD_spend 12 = .ok (.iload_n 2, 1) := by decide +kernel
theorem d_MD_spend_13 : decode b_MD_spend 13 = .ok (.ldc 72, 2) := by decide +kernel
theorem d_MD_spend_15 : decode b_MD_spend 15 = .ok (.if_icmp .le 5, 3) := by decide +kernel
theorem d_MD_spend_18 : decode b_MD_spend 18 = .ok (.iconst 0, 1) := by decide +kernel
theorem d_MD_spend_19 : decode b_MD_spend 19 = .ok (.ireturn, 1) := by decide +kernel
theorem d_MD_spend_20 : decode b_MD_spend 20 = .ok (.aload_n 0, 1) := by decide +kernel
theorem d_MD_spend_21 : decode b_MD_spend 21 = .ok (.iload_n 1, 1) := by decide +kernel
theorem d_MD_spend_22 : decode b_MD_spend 22 = .ok (.putfield 143, 3) := by decide +kernel
theorem d_MD_spend_25 : decode b_MD_spend 25 = .ok (.aload_n 0, 1) := by decide +kernel
theorem d_MD_spend_26 : decode b_MD_spend 26 = .ok (.iload_n 2, 1) := by decide +kernel
theorem d_MD_spend_27 : decode b_MD_spend 27 = .ok (.putfield 73, 3) := by decide +kernel
theorem d_MD_spend_30 : decode b_MD_spend 30 = .ok (.aload_n 0, 1) := by decide +kernel
theorem d_MD_spend_31 : decode b_MD_spend 31 = .ok (.iload_n 3, 1) := by decide +kernel
theorem d_MD_spend_32 : decode b_MD_spend 32 = .ok (.putfield 146, 3) := by decide +kernel
theorem d_MD_spend_35 : decode b_MD_spend 35 = .ok (.iconst 1, 1) := by decide +kernel
theorem d_MD_spend_36 : decode b_MD_spend 36 = .ok (.ireturn, 1) := by decide +kernel
def MD_spend (x1 : Int32) (x2 : Int32) (x3 : Int32) (σ : ST) : Option (Int32 × ST) :=
  bd1 (MD_isAsset x1) fun r1 =>
  if r1 = 0 then (some ((0 : Int32), σ))
  else (if x2 < (1 : Int32) then (some ((0 : Int32), σ))
  else (if x2 ≤ (1000000 : Int32) then (nmS (sI σ 27 x1) fun σ22 =>
  nmS (sI σ22 28 x2) fun σ27 =>
  if ¬ (x3 = 0 ∨ x3 = 1) then none else
  nmS (sI σ27 29 x3) fun σ32 =>
  some ((1 : Int32), σ32))
  else (some ((0 : Int32), σ))))
set_option maxRecDepth 100000 in
set_option maxHeartbeats 4000000 in
theorem m_MD_spend (l : Launch) (D : va_G) (ad : Nat → Nat) (cs : Nat → ClassId) (eE : Nat × Nat) (x1 : Int32) (x2 : Int32) (x3 : Int32) (σ : ST) {res : Int32 × ST} (hf : MD_spend x1 x2 x3 σ = some res) : MS l y_MD_spend (Cond.code y_MD_spend b_MD_spend 4 r_MD_spend :: BIG) 1 20 0 0 (wfm ad cs) D (ttf cs) eE [.ref (ad 18), .int x1, .int x2, .int x3] σ (PI res.1 res.2) := by
  refine MS.of (cc := b_MD_spend) (maxL := 4) (ret := r_MD_spend) (by decide) rfl (Nat.le_of_ble_eq_true rfl) (loc := [(0, .ref (ad 18)), (1, .int x1), (2, .int x2), (3, .int x3)]) rfl (fun X C Rt => ?_)
  unfold MD_spend at hf
  refine j_iload_n C 1 rfl rfl d_MD_spend_0 ?_
  obtain ⟨r1, h1, hf⟩ := o_b1 hf
  refine j_callS C [.int x1] [] (m_MD_isAsset _ _ _ _ _ x1 σ h1) (gdS wd_4_149 wd_4_150 wd_1_11 wc_MD_isAsset) hy_MD_isAsset rfl rfl (by decide) (by decide) (by decide) (by decide) (Nat.le_of_ble_eq_true rfl) d_MD_spend_1 (j_kI (r := r1) (σ1 := σ) ?_)
  refine j_if_eq C d_MD_spend_4 rfl (fun c4 => ?_) (fun c4 => ?_)
  · have hf := o_it c4 hf
    refine j_iconst C (v := 0) (by decide) d_MD_spend_18 ?_
    have hf := Option.some.inj hf
    subst hf
    exact j_zret C Rt (by decide) (Nat.zero_le _) (Nat.zero_le _) d_MD_spend_19 ⟨rfl, rfl⟩
  · have hf := o_if c4 hf
    refine j_iload_n C 2 rfl rfl d_MD_spend_7 ?_
    refine j_iconst C (v := 1) (by decide) d_MD_spend_8 ?_
    refine j_icmp_lt C d_MD_spend_9 rfl (fun c9 => ?_) (fun c9 => ?_)
    · have hf := o_it c9 hf
      refine j_iconst C (v := 0) (by decide) d_MD_spend_18 ?_
      have hf := Option.some.inj hf
      subst hf
      exact j_zret C Rt (by decide) (Nat.zero_le _) (Nat.zero_le _) d_MD_spend_19 ⟨rfl, rfl⟩
    · have hf := o_if c9 hf
      refine j_iload_n C 2 rfl rfl d_MD_spend_12 ?_
      refine j_ldc C (v := 1000000) (List.mem_cons_of_mem _ wd_4_18) d_MD_spend_13 ?_
      refine j_icmp_le C d_MD_spend_15 rfl (fun c15 => ?_) (fun c15 => ?_)
      · have hf := o_it c15 hf
        refine j_aload_n C 0 rfl rfl d_MD_spend_20 ?_
        refine j_iload_n C 1 rfl rfl d_MD_spend_21 ?_
        obtain ⟨σ22, eσ22, hf⟩ := o_nmS hf
        refine p_MD_spendAsset C eσ22 (List.mem_cons_of_mem _ wd_4_44) d_MD_spend_22 ?_
        refine j_aload_n C 0 rfl rfl d_MD_spend_25 ?_
        refine j_iload_n C 2 rfl rfl d_MD_spend_26 ?_
        obtain ⟨σ27, eσ27, hf⟩ := o_nmS hf
        refine p_MD_spendMost C eσ27 (List.mem_cons_of_mem _ wd_4_45) d_MD_spend_27 ?_
        refine j_aload_n C 0 rfl rfl d_MD_spend_30 ?_
        refine j_iload_n C 3 rfl rfl d_MD_spend_31 ?_
        obtain ⟨g32, hf⟩ := o_gn hf
        obtain ⟨σ32, eσ32, hf⟩ := o_nmS hf
        refine p_MD_partly C (Decidable.not_not.mp g32) eσ32 (List.mem_cons_of_mem _ wd_4_46) d_MD_spend_32 ?_
        refine j_iconst C (v := 1) (by decide) d_MD_spend_35 ?_
        have hf := Option.some.inj hf
        subst hf
        exact j_zret C Rt (by decide) (Nat.zero_le _) (Nat.zero_le _) d_MD_spend_36 ⟨rfl, rfl⟩
      · have hf := o_if c15 hf
        refine j_iconst C (v := 0) (by decide) d_MD_spend_18 ?_
        have hf := Option.some.inj hf
        subst hf
        exact j_zret C Rt (by decide) (Nat.zero_le _) (Nat.zero_le _) d_MD_spend_19 ⟨rfl, rfl⟩
theorem d_MD_tick_0 : decode b_MD_tick 0 = .ok (.aload_n 0, 1) := by decide +kernel
theorem d_MD_tick_1 : decode b_MD_tick 1 = .ok (.dup, 1) := by decide +kernel
theorem d_MD_tick_2 : decode b_MD_tick 2 = .ok (.getfield 230, 3) := by decide +kernel
theorem d_MD_tick_5 : decode b_MD_tick 5 = .ok (.iload_n 1, 1) := by decide +kernel
theorem d_MD_tick_6 : decode b_MD_tick 6 = .ok (.ifCond .lt 14, 3) := by decide +kernel
theorem d_MD_tick_9 : decode b_MD_tick 9 = .ok (.iload_n 1, 1) := by decide +kernel
theorem d_MD_tick_10 : decode b_MD_tick 10 = .ok (.sipush 1000, 3) := by decide +kernel
theorem d_MD_tick_13 : decode b_MD_tick 13 = .ok (.if_icmp .gt 7, 3) := by decide +kernel
theorem d_MD_tick_16 : decode b_MD_tick 16 = .ok (.iload_n 1, 1) := by decide +kernel
theorem d_MD_tick_17 : decode b_MD_tick 17 = .ok (.goto 4, 3) := by decide +kernel
theorem d_MD_tick_20 : decode b_MD_tick 20 = .ok (.iconst 0, 1) := by decide +kernel
theorem d_MD_tick_21 : decode b_MD_tick 21 = .ok (.iadd, 1) := by decide +kernel
theorem d_MD_tick_22 : decode b_MD_tick 22 = .ok (.putfield 230, 3) := by decide +kernel
theorem d_MD_tick_25 : decode b_MD_tick 25 = .ok (.aload_n 0, 1) := by decide +kernel
theorem d_MD_tick_26 : decode b_MD_tick 26 = .ok (.getfield 230, 3) := by decide +kernel
theorem d_MD_tick_29 : decode b_MD_tick 29 = .ok (.ireturn, 1) := by decide +kernel
def MD_tick_c21 (s1 : Int32) (s2 : Int32) (σ : ST) : Option (Int32 × ST) :=
  nmS (sI σ 30 (s1 + s2)) fun σ22 =>
  some ((gI σ22 30), σ22)
set_option maxRecDepth 100000 in
set_option maxHeartbeats 4000000 in
theorem w_MD_tick_c21 {X : JX} (C : JC X l D (ttf cs) eE b_MD_tick "TollLedgerModel" 2 (Cond.code y_MD_tick b_MD_tick 2 r_MD_tick :: BIG) 0 0 0 0) {res : Int32 × ST} (Rt : JR X (wfm ad cs) 0 0 (PI res.1 res.2) r_MD_tick "tick")  (s1 : Int32) (s2 : Int32) (σ : ST) (hf : MD_tick_c21 s1 s2 σ = some res) : J (wfm ad cs) X 2 0 0 σ 21 [(0, .ref (ad 18))] [.int s2, .int s1, .ref (ad 18)] := by
  unfold MD_tick_c21 at hf
  refine j_iadd C d_MD_tick_21 ?_
  obtain ⟨σ22, eσ22, hf⟩ := o_nmS hf
  refine p_MD_clock C eσ22 (List.mem_cons_of_mem _ wd_4_47) d_MD_tick_22 ?_
  refine j_aload_n C 0 rfl rfl d_MD_tick_25 ?_
  refine g_MD_clock C (List.mem_cons_of_mem _ wd_4_47) d_MD_tick_26 ?_
  have hf := Option.some.inj hf
  subst hf
  exact j_iret C Rt (Nat.zero_le _) (Nat.zero_le _) d_MD_tick_29 ⟨rfl, rfl⟩
def MD_tick (x1 : Int32) (σ : ST) : Option (Int32 × ST) :=
  if x1 < 0 then (MD_tick_c21 (gI σ 30) (0 : Int32) σ)
  else (if (1000 : Int32) < x1 then (MD_tick_c21 (gI σ 30) (0 : Int32) σ)
  else (MD_tick_c21 (gI σ 30) x1 σ))
set_option maxRecDepth 100000 in
set_option maxHeartbeats 4000000 in
theorem m_MD_tick (l : Launch) (D : va_G) (ad : Nat → Nat) (cs : Nat → ClassId) (eE : Nat × Nat) (x1 : Int32) (σ : ST) {res : Int32 × ST} (hf : MD_tick x1 σ = some res) : MS l y_MD_tick (Cond.code y_MD_tick b_MD_tick 2 r_MD_tick :: BIG) 0 0 0 0 (wfm ad cs) D (ttf cs) eE [.ref (ad 18), .int x1] σ (PI res.1 res.2) := by
  refine MS.of (cc := b_MD_tick) (maxL := 2) (ret := r_MD_tick) (by decide) rfl (Nat.le_of_ble_eq_true rfl) (loc := [(0, .ref (ad 18)), (1, .int x1)]) rfl (fun X C Rt => ?_)
  unfold MD_tick at hf
  refine j_aload_n C 0 rfl rfl d_MD_tick_0 ?_
  refine j_dup C rfl d_MD_tick_1 ?_
  refine g_MD_clock C (List.mem_cons_of_mem _ wd_4_47) d_MD_tick_2 ?_
  refine j_iload_n C 1 rfl rfl d_MD_tick_5 ?_
  refine j_if_lt C d_MD_tick_6 rfl (fun c6 => ?_) (fun c6 => ?_)
  · have hf := o_it c6 hf
    refine j_iconst C (v := 0) (by decide) d_MD_tick_20 ?_
    refine j_sub [0] rfl ?_
    exact w_MD_tick_c21 C Rt  (gI σ 30) (0 : Int32) σ hf
  · have hf := o_if c6 hf
    refine j_iload_n C 1 rfl rfl d_MD_tick_9 ?_
    refine j_sipush C (v := 1000) (by decide) d_MD_tick_10 ?_
    refine j_icmp_gt C d_MD_tick_13 rfl (fun c13 => ?_) (fun c13 => ?_)
    · have hf := o_it c13 hf
      refine j_iconst C (v := 0) (by decide) d_MD_tick_20 ?_
      refine j_sub [0] rfl ?_
      exact w_MD_tick_c21 C Rt  (gI σ 30) (0 : Int32) σ hf
    · have hf := o_if c13 hf
      refine j_iload_n C 1 rfl rfl d_MD_tick_16 ?_
      refine j_goto C d_MD_tick_17 rfl ?_
      refine j_sub [0] rfl ?_
      exact w_MD_tick_c21 C Rt  (gI σ 30) x1 σ hf
theorem d_MD_trust_0 : decode b_MD_trust 0 = .ok (.aload_n 0, 1) := by decide +kernel
theorem d_MD_trust_1 : decode b_MD_trust 1 = .ok (.iload_n 1, 1) := by decide +kernel
theorem d_MD_trust_2 : decode b_MD_trust 2 = .ok (.invokestatic 137, 3) := by decide +kernel
theorem d_MD_trust_5 : decode b_MD_trust 5 = .ok (.ifCond .eq 35, 3) := by decide +kernel
theorem d_MD_trust_8 : decode b_MD_trust 8 = .ok (.iload_n 1, 1) := by decide +kernel
theorem d_MD_trust_9 : decode b_MD_trust 9 = .ok (.aload_n 0, 1) := by decide +kernel
theorem d_MD_trust_10 : decode b_MD_trust 10 = .ok (.getfield 68, 3) := by decide +kernel
theorem d_MD_trust_13 : decode b_MD_trust 13 = .ok (.if_icmp .eq 27, 3) := by decide +kernel
theorem d_MD_trust_16 : decode b_MD_trust 16 = .ok (.iload_n 2, 1) := by decide +kernel
theorem d_MD_trust_17 : decode b_MD_trust 17 = .ok (.iconst 1, 1) := by decide +kernel
theorem d_MD_trust_18 : decode b_MD_trust 18 = .ok (.if_icmp .eq 8, 3) := by decide +kernel
theorem d_MD_trust_21 : decode b_MD_trust 21 = .ok (.iload_n 2, 1) := by decide +kernel
theorem d_MD_trust_22 : decode b_MD_trust 22 = .ok (.iconst 2, 1) := by decide +kernel
theorem d_MD_trust_23 : decode b_MD_trust 23 = .ok (.if_icmp .ne 17, 3) := by decide +kernel
theorem d_MD_trust_26 : decode b_MD_trust 26 = .ok (.iload_n 3, 1) := by decide +kernel
theorem d_MD_trust_27 : decode b_MD_trust 27 = .ok (.ifCond .lt 13, 3) := by decide +kernel
theorem d_MD_trust_30 : decode b_MD_trust 30 = .ok (.iload_n 3, 1) := by decide +kernel
theorem d_MD_trust_31 : decode b_MD_trust 31 = .ok (.ldc 157, 2) := by decide +kernel
theorem d_MD_trust_33 : decode b_MD_trust 33 = .ok (.if_icmp .gt 7, 3) := by decide +kernel
theorem d_MD_trust_36 : decode b_MD_trust 36 = .ok (.iconst 1, 1) := by decide +kernel
theorem d_MD_trust_37 : decode b_MD_trust 37 = .ok (.goto 4, 3) := by decide +kernel
theorem d_MD_trust_40 : decode b_MD_trust 40 = .ok (.iconst 0, 1) := by decide +kernel
theorem d_MD_trust_41 : decode b_MD_trust 41 = .ok (.invokevirtual 150, 3) := by decide +kernel
theorem d_MD_trust_44 : decode b_MD_trust 44 = .ok (.istore 5, 2) := by decide +kernel
theorem d_MD_trust_46 : decode b_MD_trust 46 = .ok (.iload 5, 2) := by decide +kernel
theorem d_MD_trust_48 : decode b_MD_trust 48 = .ok (.ifCond .eq 6, 3) := by decide +kernel
theorem d_MD_trust_51 : decode b_MD_trust 51 = .ok (.iload 5, 2) := by decide +kernel
theorem d_MD_trust_53 : decode b_MD_trust 53 = .ok (.ireturn, 1) := by decide +kernel
theorem d_MD_trust_54 : decode b_MD_trust 54 = .ok (.aload_n 0, 1) := by decide +kernel
theorem d_MD_trust_55 : decode b_MD_trust 55 = .ok (.getfield 7, 3) := by decide +kernel
theorem d_MD_trust_58 : decode b_MD_trust 58 = .ok (.iload_n 1, 1) := by decide +kernel
theorem d_MD_trust_59 : decode b_MD_trust 59 = .ok (.baload, 1) := by decide +kernel
theorem d_MD_trust_60 : decode b_MD_trust 60 = .ok (.ifCond .ne 6, 3) := by decide +kernel
theorem d_MD_trust_63 : decode b_MD_trust 63 = .ok (.bipush 21, 2) := by decide +kernel
theorem d_MD_trust_65 : decode b_MD_trust 65 = .ok (.ireturn, 1) := by decide +kernel
theorem d_MD_trust_66 : decode b_MD_trust 66 = .ok (.aload_n 0, 1) := by decide +kernel
theorem d_MD_trust_67 : decode b_MD_trust 67 = .ok (.getfield 68, 3) := by decide +kernel
theorem d_MD_trust_70 : decode b_MD_trust 70 = .ok (.iload_n 1, 1) := by decide +kernel
theorem d_MD_trust_71 : decode b_MD_trust 71 = .ok (.iload_n 2, 1) := by decide +kernel
theorem d_MD_trust_72 : decode b_MD_trust 72 = .ok (.invokestatic 102, 3) := by decide +kernel
theorem d_MD_trust_75 : decode b_MD_trust 75 = .ok (.istore 6, 2) := by decide +kernel
theorem d_MD_trust_77 : decode b_MD_trust 77 = .ok (.aload_n 0, 1) := by decide +kernel
theorem d_MD_trust_78 : decode b_MD_trust 78 = .ok (.iload 6, 2) := by decide +kernel
theorem d_MD_trust_80 : decode b_MD_trust 80 = .ok (.invokevirtual 106, 3) := by decide +kernel
theorem d_MD_trust_83 : decode b_MD_trust 83 = .ok (.istore 7, 2) := by decide +kernel
theorem d_MD_trust_85 : decode b_MD_trust 85 = .ok (.aload_n 0, 1) := by decide +kernel
theorem d_MD_trust_86 : decode b_MD_trust 86 = .ok (.getfield 26, 3) := by decide +kernel
theorem d_MD_trust_89 : decode b_MD_trust 89 = .ok (.iload 6, 2) := by decide +kernel
theorem d_MD_trust_91 : decode b_MD_trust 91 = .ok (.iaload, 1) := by decide +kernel
theorem d_MD_trust_92 : decode b_MD_trust 92 = .ok (.istore 8, 2) := by decide +kernel
theorem d_MD_trust_94 : decode b_MD_trust 94 = .ok (.aload_n 0, 1) := by decide +kernel
theorem d_MD_trust_95 : decode b_MD_trust 95 = .ok (.getfield 26, 3) := by decide +kernel
theorem d_MD_trust_98 : decode b_MD_trust 98 = .ok (.iload 6, 2) := by decide +kernel
theorem d_MD_trust_100 : decode b_MD_trust 100 = .ok (.iload_n 3, 1) := by decide +kernel
theorem d_MD_trust_101 : decode b_MD_trust 101 = .ok (.iastore, 1) := by decide +kernel
theorem d_MD_trust_102 : decode b_MD_trust 102 = .ok (.aload_n 0, 1) := by decide +kernel
theorem d_MD_trust_103 : decode b_MD_trust 103 = .ok (.iload 6, 2) := by decide +kernel
theorem d_MD_trust_105 : decode b_MD_trust 105 = .ok (.invokevirtual 106, 3) := by decide +kernel
theorem d_MD_trust_108 : decode b_MD_trust 108 = .ok (.ifCond .eq 40, 3) := by decide +kernel
theorem d_MD_trust_111 : decode b_MD_trust 111 = .ok (.iload 7, 2) := by decide +kernel
theorem d_MD_trust_113 : decode b_MD_trust 113 = .ok (.ifCond .ne 35, 3) := by decide +kernel
theorem d_MD_trust_116 : decode b_MD_trust 116 = .ok (.aload_n 0, 1) := by decide +kernel
theorem d_MD_trust_117 : decode b_MD_trust 117 = .ok (.getfield 13, 3) := by decide +kernel
theorem d_MD_trust_120 : decode b_MD_trust 120 = .ok (.aload_n 0, 1) := by decide +kernel
theorem d_MD_trust_121 : decode b_MD_trust 121 = .ok (.getfield 68, 3) := by decide +kernel
theorem d_MD_trust_124 : decode b_MD_trust 124 = .ok (.iaload, 1) := by decide +kernel
theorem d_MD_trust_125 : decode b_MD_trust 125 = .ok (.aload_n 0, 1) := by decide +kernel
theorem d_MD_trust_126 : decode b_MD_trust 126 = .ok (.aload_n 0, 1) := by decide +kernel
theorem d_MD_trust_127 : decode b_MD_trust 127 = .ok (.getfield 68, 3) := by decide +kernel
theorem d_MD_trust_130 : decode b_MD_trust 130 = .ok (.invokevirtual 120, 3) := by decide +kernel
theorem d_MD_trust_133 : decode b_MD_trust 133 = .ok (.if_icmp .ge 15, 3) := by decide +kernel
theorem d_MD_trust_136 : decode b_MD_trust 136 = .ok (.aload_n 0, 1) := by decide +kernel
theorem d_MD_trust_137 : decode b_MD_trust 137 = .ok (.getfield 26, 3) := by decide +kernel
theorem d_MD_trust_140 : decode b_MD_trust 140 = .ok (.iload 6, 2) := by decide +kernel
theorem d_MD_trust_142 : decode b_MD_trust 142 = .ok (.iload 8, 2) := by decide +kernel
theorem d_MD_trust_144 : decode b_MD_trust 144 = .ok (.iastore, 1) := by decide +kernel
theorem d_MD_trust_145 : decode b_MD_trust 145 = .ok (.bipush 23, 2) := by decide +kernel
theorem d_MD_trust_147 : decode b_MD_trust 147 = .ok (.ireturn, 1) := by decide +kernel
theorem d_MD_trust_148 : decode b_MD_trust 148 = .ok (.aload_n 0, 1) := by decide +kernel
theorem d_MD_trust_149 : decode b_MD_trust 149 = .ok (.getfield 29, 3) := by decide +kernel
theorem d_MD_trust_152 : decode b_MD_trust 152 = .ok (.iload 6, 2) := by decide +kernel
theorem d_MD_trust_154 : decode b_MD_trust 154 = .ok (.iload 4, 2) := by decide +kernel
theorem d_MD_trust_156 : decode b_MD_trust 156 = .ok (.bastore, 1) := by decide +kernel
theorem d_MD_trust_157 : decode b_MD_trust 157 = .ok (.iconst 0, 1) := by decide +kernel
theorem d_MD_trust_158 : decode b_MD_trust 158 = .ok (.ireturn, 1) := by decide +kernel
def MD_trust_c148 (x4 : Int32) (x6 : Int32) (σ : ST) : Option (Int32 × ST) :=
  if x6 < 0 ∨ 72 ≤ x6.toNatClampNeg then none else
  if ¬ (x4 = 0 ∨ x4 = 1) then none else
  nmS (sA σ 14 x6.toNatClampNeg x4) fun σ156 =>
  some ((0 : Int32), σ156)
set_option maxRecDepth 100000 in
set_option maxHeartbeats 4000000 in
theorem w_MD_trust_c148 {X : JX} (C : JC X l D (ttf cs) eE b_MD_trust "TollLedgerModel" 9 (Cond.code y_MD_trust b_MD_trust 9 r_MD_trust :: BIG) 3 65 0 0) {res : Int32 × ST} (Rt : JR X (wfm ad cs) 0 0 (PI res.1 res.2) r_MD_trust "trust")  (x4 : Int32) (x6 : Int32) (σ : ST) (hf : MD_trust_c148 x4 x6 σ = some res) : J (wfm ad cs) X 9 0 0 σ 148 [(0, .ref (ad 18)), (4, .int x4), (6, .int x6)] [] := by
  unfold MD_trust_c148 at hf
  refine j_aload_n C 0 rfl rfl d_MD_trust_148 ?_
  refine g_MD_quiets C (List.mem_cons_of_mem _ wd_4_25) d_MD_trust_149 ?_
  refine j_iload C 2 rfl d_MD_trust_152 ?_
  refine j_iload C 1 rfl d_MD_trust_154 ?_
  obtain ⟨g156, hf⟩ := o_gn hf
  obtain ⟨g156bb, hf⟩ := o_gn hf
  obtain ⟨σ156, eσ156, hf⟩ := o_nmS hf
  refine sa_m_quiets C (Decidable.not_not.mp g156bb) g156 eσ156 d_MD_trust_156 ?_
  refine j_iconst C (v := 0) (by decide) d_MD_trust_157 ?_
  have hf := Option.some.inj hf
  subst hf
  exact j_iret C Rt (Nat.zero_le _) (Nat.zero_le _) d_MD_trust_158 ⟨rfl, rfl⟩
def MD_trust_c41 (x1 : Int32) (x2 : Int32) (x3 : Int32) (x4 : Int32) (s1 : Int32) (σ : ST) : Option (Int32 × ST) :=
  bd2 (MD_begin s1 σ) fun r41 σ41 =>
  if r41 = 0 then (if x1 < 0 ∨ 6 ≤ x1.toNatClampNeg then none else
  if (gA σ41 8 x1.toNatClampNeg) = 0 then (some ((21 : Int32), σ41))
  else (bd1 (MD_line (gI σ41 25) x1 x2) fun r72 =>
  bd1 (MD_owns r72 σ41) fun r80 =>
  if r72 < 0 ∨ 72 ≤ r72.toNatClampNeg then none else
  nmI (gA σ41 13 r72.toNatClampNeg) fun x8_92 =>
  nmS (sA σ41 13 r72.toNatClampNeg x3) fun σ101 =>
  bd1 (MD_owns r72 σ101) fun r105 =>
  if r105 = 0 then (MD_trust_c148 x4 r72 σ101)
  else (if r80 = 0 then (if (gI σ101 25) < 0 ∨ 6 ≤ (gI σ101 25).toNatClampNeg then none else
  bd1 (MD_reserve (gI σ101 25) σ101) fun r130 =>
  if r130 ≤ (gA σ101 9 (gI σ101 25).toNatClampNeg) then (MD_trust_c148 x4 r72 σ101)
  else (nmS (sA σ101 13 r72.toNatClampNeg x8_92) fun σ144 =>
  some ((23 : Int32), σ144)))
  else (MD_trust_c148 x4 r72 σ101))))
  else (some (r41, σ41))
set_option maxRecDepth 100000 in
set_option maxHeartbeats 4000000 in
theorem w_MD_trust_c41 {X : JX} (C : JC X l D (ttf cs) eE b_MD_trust "TollLedgerModel" 9 (Cond.code y_MD_trust b_MD_trust 9 r_MD_trust :: BIG) 3 65 0 0) {res : Int32 × ST} (Rt : JR X (wfm ad cs) 0 0 (PI res.1 res.2) r_MD_trust "trust")  (x1 : Int32) (x2 : Int32) (x3 : Int32) (x4 : Int32) (s1 : Int32) (σ : ST) (hf : MD_trust_c41 x1 x2 x3 x4 s1 σ = some res) : J (wfm ad cs) X 9 0 0 σ 41 [(0, .ref (ad 18)), (1, .int x1), (2, .int x2), (3, .int x3), (4, .int x4)] [.int s1, .ref (ad 18)] := by
  unfold MD_trust_c41 at hf
  obtain ⟨r41, σ41, h41, hf⟩ := o_b2 hf
  refine j_callV (ci := 10) (Cn := "TollLedgerModel") (T := T_MD) (N := 39) C [.int s1] [] (m_MD_begin _ _ _ _ _ s1 σ h41) (gdV wd_4_156 wd_4_158 wp_17 wd_1_11 wc_MD_begin) hy_MD_begin rfl ⟨18, rfl⟩ rfl rfl (by decide) (by decide) (by decide) (by decide) (Nat.le_of_ble_eq_true rfl) d_MD_trust_41 (j_kI (r := r41) (σ1 := σ41) ?_)
  refine j_istore C (by decide) (loc' := [(5, .int r41), (0, .ref (ad 18)), (1, .int x1), (2, .int x2), (3, .int x3), (4, .int x4)]) rfl d_MD_trust_44 ?_
  refine j_iload C 0 rfl d_MD_trust_46 ?_
  refine j_if_eq C d_MD_trust_48 rfl (fun c48 => ?_) (fun c48 => ?_)
  · have hf := o_it c48 hf
    refine j_aload_n C 1 rfl rfl d_MD_trust_54 ?_
    refine g_MD_exists C (List.mem_cons_of_mem _ wd_4_19) d_MD_trust_55 ?_
    refine j_iload_n C 2 rfl rfl d_MD_trust_58 ?_
    obtain ⟨g59, hf⟩ := o_gn hf
    refine la_m_exists C g59 d_MD_trust_59 ?_
    refine j_if_ne C d_MD_trust_60 rfl (fun c60 => ?_) (fun c60 => ?_)
    · have hf := o_if c60 hf
      refine j_aload_n C 1 rfl rfl d_MD_trust_66 ?_
      refine g_MD_me C (List.mem_cons_of_mem _ wd_4_42) d_MD_trust_67 ?_
      refine j_iload_n C 2 rfl rfl d_MD_trust_70 ?_
      refine j_iload_n C 3 rfl rfl d_MD_trust_71 ?_
      obtain ⟨r72, h72, hf⟩ := o_b1 hf
      refine j_callS C [.int (gI σ41 25), .int x1, .int x2] [] (m_MD_line _ _ _ _ _ (gI σ41 25) x1 x2 σ41 h72) (gdS wd_4_186 wd_4_187 wd_1_11 wc_MD_line) hy_MD_line rfl rfl (by decide) (by decide) (by decide) (by decide) (Nat.le_of_ble_eq_true rfl) d_MD_trust_72 (j_kI (r := r72) (σ1 := σ41) ?_)
      refine j_istore C (by decide) (loc' := [(6, .int r72), (5, .int r41), (0, .ref (ad 18)), (1, .int x1), (2, .int x2), (3, .int x3), (4, .int x4)]) rfl d_MD_trust_75 ?_
      refine j_aload_n C 2 rfl rfl d_MD_trust_77 ?_
      refine j_iload C 0 rfl d_MD_trust_78 ?_
      obtain ⟨r80, h80, hf⟩ := o_b1 hf
      refine j_callV (ci := 10) (Cn := "TollLedgerModel") (T := T_MD) (N := 39) C [.int r72] [] (m_MD_owns _ _ _ _ _ r72 σ41 h80) (gdV wd_4_176 wd_4_178 wp_21 wd_1_11 wc_MD_owns) hy_MD_owns rfl ⟨18, rfl⟩ rfl rfl (by decide) (by decide) (by decide) (by decide) (Nat.le_of_ble_eq_true rfl) d_MD_trust_80 (j_kI (r := r80) (σ1 := σ41) ?_)
      refine j_istore C (by decide) (loc' := [(7, .int r80), (6, .int r72), (5, .int r41), (0, .ref (ad 18)), (1, .int x1), (2, .int x2), (3, .int x3), (4, .int x4)]) rfl d_MD_trust_83 ?_
      refine j_aload_n C 3 rfl rfl d_MD_trust_85 ?_
      refine g_MD_limits C (List.mem_cons_of_mem _ wd_4_24) d_MD_trust_86 ?_
      refine j_iload C 1 rfl d_MD_trust_89 ?_
      obtain ⟨g91, hf⟩ := o_gn hf
      refine la_m_limits C g91 d_MD_trust_91 ?_
      obtain ⟨x8_92, ex8_92, hf⟩ := o_nmI hf
      refine j_topI ex8_92 ?_
      refine j_istore C (by decide) (loc' := [(8, .int x8_92), (7, .int r80), (6, .int r72), (5, .int r41), (0, .ref (ad 18)), (1, .int x1), (2, .int x2), (3, .int x3), (4, .int x4)]) rfl d_MD_trust_92 ?_
      refine j_aload_n C 4 rfl rfl d_MD_trust_94 ?_
      refine g_MD_limits C (List.mem_cons_of_mem _ wd_4_24) d_MD_trust_95 ?_
      refine j_iload C 2 rfl d_MD_trust_98 ?_
      refine j_iload_n C 7 rfl rfl d_MD_trust_100 ?_
      obtain ⟨σ101, eσ101, hf⟩ := o_nmS hf
      refine sa_m_limits C g91 eσ101 d_MD_trust_101 ?_
      refine j_aload_n C 4 rfl rfl d_MD_trust_102 ?_
      refine j_iload C 2 rfl d_MD_trust_103 ?_
      obtain ⟨r105, h105, hf⟩ := o_b1 hf
      refine j_callV (ci := 10) (Cn := "TollLedgerModel") (T := T_MD) (N := 39) C [.int r72] [] (m_MD_owns _ _ _ _ _ r72 σ101 h105) (gdV wd_4_176 wd_4_178 wp_21 wd_1_11 wc_MD_owns) hy_MD_owns rfl ⟨18, rfl⟩ rfl rfl (by decide) (by decide) (by decide) (by decide) (Nat.le_of_ble_eq_true rfl) d_MD_trust_105 (j_kI (r := r105) (σ1 := σ101) ?_)
      refine j_if_eq C d_MD_trust_108 rfl (fun c108 => ?_) (fun c108 => ?_)
      · have hf := o_it c108 hf
        refine j_sub [4, 8, 2] rfl ?_
        exact w_MD_trust_c148 C Rt  x4 r72 σ101 hf
      · have hf := o_if c108 hf
        refine j_iload C 1 rfl d_MD_trust_111 ?_
        refine j_if_ne C d_MD_trust_113 rfl (fun c113 => ?_) (fun c113 => ?_)
        · have hf := o_if c113 hf
          refine j_sub [4, 8, 2] rfl ?_
          exact w_MD_trust_c148 C Rt  x4 r72 σ101 hf
        · have hf := o_it c113 hf
          refine j_aload_n C 4 rfl rfl d_MD_trust_116 ?_
          refine g_MD_coins C (List.mem_cons_of_mem _ wd_4_20) d_MD_trust_117 ?_
          refine j_aload_n C 4 rfl rfl d_MD_trust_120 ?_
          refine g_MD_me C (List.mem_cons_of_mem _ wd_4_42) d_MD_trust_121 ?_
          obtain ⟨g124, hf⟩ := o_gn hf
          refine la_m_coins C g124 d_MD_trust_124 ?_
          refine j_aload_n C 4 rfl rfl d_MD_trust_125 ?_
          refine j_aload_n C 4 rfl rfl d_MD_trust_126 ?_
          refine g_MD_me C (List.mem_cons_of_mem _ wd_4_42) d_MD_trust_127 ?_
          obtain ⟨r130, h130, hf⟩ := o_b1 hf
          refine j_callV (ci := 10) (Cn := "TollLedgerModel") (T := T_MD) (N := 39) C [.int (gI σ101 25)] [.int (gA σ101 9 (gI σ101 25).toNatClampNeg)] (m_MD_reserve _ _ _ _ _ (gI σ101 25) σ101 h130) (gdV wd_4_168 wd_4_170 wp_19 wd_1_11 wc_MD_reserve) hy_MD_reserve rfl ⟨18, rfl⟩ rfl rfl (by decide) (by decide) (by decide) (by decide) (Nat.le_of_ble_eq_true rfl) d_MD_trust_130 (j_kI (r := r130) (σ1 := σ101) ?_)
          refine j_icmp_ge C d_MD_trust_133 rfl (fun c133 => ?_) (fun c133 => ?_)
          · have hf := o_it c133 hf
            refine j_sub [4, 8, 2] rfl ?_
            exact w_MD_trust_c148 C Rt  x4 r72 σ101 hf
          · have hf := o_if c133 hf
            refine j_aload_n C 4 rfl rfl d_MD_trust_136 ?_
            refine g_MD_limits C (List.mem_cons_of_mem _ wd_4_24) d_MD_trust_137 ?_
            refine j_iload C 2 rfl d_MD_trust_140 ?_
            refine j_iload C 0 rfl d_MD_trust_142 ?_
            obtain ⟨σ144, eσ144, hf⟩ := o_nmS hf
            refine sa_m_limits C g91 eσ144 d_MD_trust_144 ?_
            refine j_bipush C (v := 23) (by decide) d_MD_trust_145 ?_
            have hf := Option.some.inj hf
            subst hf
            exact j_iret C Rt (Nat.zero_le _) (Nat.zero_le _) d_MD_trust_147 ⟨rfl, rfl⟩
    · have hf := o_it c60 hf
      refine j_bipush C (v := 21) (by decide) d_MD_trust_63 ?_
      have hf := Option.some.inj hf
      subst hf
      exact j_iret C Rt (Nat.zero_le _) (Nat.zero_le _) d_MD_trust_65 ⟨rfl, rfl⟩
  · have hf := o_if c48 hf
    refine j_iload C 0 rfl d_MD_trust_51 ?_
    have hf := Option.some.inj hf
    subst hf
    exact j_iret C Rt (Nat.zero_le _) (Nat.zero_le _) d_MD_trust_53 ⟨rfl, rfl⟩
def MD_trust_c26 (x1 : Int32) (x2 : Int32) (x3 : Int32) (x4 : Int32) (σ : ST) : Option (Int32 × ST) :=
  if x3 < 0 then (MD_trust_c41 x1 x2 x3 x4 (0 : Int32) σ)
  else (if (100000 : Int32) < x3 then (MD_trust_c41 x1 x2 x3 x4 (0 : Int32) σ)
  else (MD_trust_c41 x1 x2 x3 x4 (1 : Int32) σ))
set_option maxRecDepth 100000 in
set_option maxHeartbeats 4000000 in
theorem w_MD_trust_c26 {X : JX} (C : JC X l D (ttf cs) eE b_MD_trust "TollLedgerModel" 9 (Cond.code y_MD_trust b_MD_trust 9 r_MD_trust :: BIG) 3 65 0 0) {res : Int32 × ST} (Rt : JR X (wfm ad cs) 0 0 (PI res.1 res.2) r_MD_trust "trust")  (x1 : Int32) (x2 : Int32) (x3 : Int32) (x4 : Int32) (σ : ST) (hf : MD_trust_c26 x1 x2 x3 x4 σ = some res) : J (wfm ad cs) X 9 0 0 σ 26 [(0, .ref (ad 18)), (1, .int x1), (2, .int x2), (3, .int x3), (4, .int x4)] [.ref (ad 18)] := by
  unfold MD_trust_c26 at hf
  refine j_iload_n C 3 rfl rfl d_MD_trust_26 ?_
  refine j_if_lt C d_MD_trust_27 rfl (fun c27 => ?_) (fun c27 => ?_)
  · have hf := o_it c27 hf
    refine j_iconst C (v := 0) (by decide) d_MD_trust_40 ?_
    exact w_MD_trust_c41 C Rt  x1 x2 x3 x4 (0 : Int32) σ hf
  · have hf := o_if c27 hf
    refine j_iload_n C 3 rfl rfl d_MD_trust_30 ?_
    refine j_ldc C (v := 100000) (List.mem_cons_of_mem _ wd_4_193) d_MD_trust_31 ?_
    refine j_icmp_gt C d_MD_trust_33 rfl (fun c33 => ?_) (fun c33 => ?_)
    · have hf := o_it c33 hf
      refine j_iconst C (v := 0) (by decide) d_MD_trust_40 ?_
      exact w_MD_trust_c41 C Rt  x1 x2 x3 x4 (0 : Int32) σ hf
    · have hf := o_if c33 hf
      refine j_iconst C (v := 1) (by decide) d_MD_trust_36 ?_
      refine j_goto C d_MD_trust_37 rfl ?_
      exact w_MD_trust_c41 C Rt  x1 x2 x3 x4 (1 : Int32) σ hf
def MD_trust (x1 : Int32) (x2 : Int32) (x3 : Int32) (x4 : Int32) (σ : ST) : Option (Int32 × ST) :=
  bd1 (MD_isAccount x1) fun r2 =>
  if r2 = 0 then (MD_trust_c41 x1 x2 x3 x4 (0 : Int32) σ)
  else (if x1 = (gI σ 25) then (MD_trust_c41 x1 x2 x3 x4 (0 : Int32) σ)
  else (if x2 = (1 : Int32) then (MD_trust_c26 x1 x2 x3 x4 σ)
  else (if x2 = (2 : Int32) then (MD_trust_c26 x1 x2 x3 x4 σ)
  else (MD_trust_c41 x1 x2 x3 x4 (0 : Int32) σ))))
set_option maxRecDepth 100000 in
set_option maxHeartbeats 4000000 in
theorem m_MD_trust (l : Launch) (D : va_G) (ad : Nat → Nat) (cs : Nat → ClassId) (eE : Nat × Nat) (x1 : Int32) (x2 : Int32) (x3 : Int32) (x4 : Int32) (σ : ST) {res : Int32 × ST} (hf : MD_trust x1 x2 x3 x4 σ = some res) : MS l y_MD_trust (Cond.code y_MD_trust b_MD_trust 9 r_MD_trust :: BIG) 3 65 0 0 (wfm ad cs) D (ttf cs) eE [.ref (ad 18), .int x1, .int x2, .int x3, .int x4] σ (PI res.1 res.2) := by
  refine MS.of (cc := b_MD_trust) (maxL := 9) (ret := r_MD_trust) (by decide) rfl (Nat.le_of_ble_eq_true rfl) (loc := [(0, .ref (ad 18)), (1, .int x1), (2, .int x2), (3, .int x3), (4, .int x4)]) rfl (fun X C Rt => ?_)
  unfold MD_trust at hf
  refine j_aload_n C 0 rfl rfl d_MD_trust_0 ?_
  refine j_iload_n C 1 rfl rfl d_MD_trust_1 ?_
  obtain ⟨r2, h2, hf⟩ := o_b1 hf
  refine j_callS C [.int x1] [.ref (ad 18)] (m_MD_isAccount _ _ _ _ _ x1 σ h2) (gdS wd_4_142 wd_4_143 wd_1_11 wc_MD_isAccount) hy_MD_isAccount rfl rfl (by decide) (by decide) (by decide) (by decide) (Nat.le_of_ble_eq_true rfl) d_MD_trust_2 (j_kI (r := r2) (σ1 := σ) ?_)
  refine j_if_eq C d_MD_trust_5 rfl (fun c5 => ?_) (fun c5 => ?_)
  · have hf := o_it c5 hf
    refine j_iconst C (v := 0) (by decide) d_MD_trust_40 ?_
    exact w_MD_trust_c41 C Rt  x1 x2 x3 x4 (0 : Int32) σ hf
  · have hf := o_if c5 hf
    refine j_iload_n C 1 rfl rfl d_MD_trust_8 ?_
    refine j_aload_n C 0 rfl rfl d_MD_trust_9 ?_
    refine g_MD_me C (List.mem_cons_of_mem _ wd_4_42) d_MD_trust_10 ?_
    refine j_icmp_eq C d_MD_trust_13 rfl (fun c13 => ?_) (fun c13 => ?_)
    · have hf := o_it c13 hf
      refine j_iconst C (v := 0) (by decide) d_MD_trust_40 ?_
      exact w_MD_trust_c41 C Rt  x1 x2 x3 x4 (0 : Int32) σ hf
    · have hf := o_if c13 hf
      refine j_iload_n C 2 rfl rfl d_MD_trust_16 ?_
      refine j_iconst C (v := 1) (by decide) d_MD_trust_17 ?_
      refine j_icmp_eq C d_MD_trust_18 rfl (fun c18 => ?_) (fun c18 => ?_)
      · have hf := o_it c18 hf
        exact w_MD_trust_c26 C Rt  x1 x2 x3 x4 σ hf
      · have hf := o_if c18 hf
        refine j_iload_n C 2 rfl rfl d_MD_trust_21 ?_
        refine j_iconst C (v := 2) (by decide) d_MD_trust_22 ?_
        refine j_icmp_ne C d_MD_trust_23 rfl (fun c23 => ?_) (fun c23 => ?_)
        · have hf := o_if c23 hf
          refine j_iconst C (v := 0) (by decide) d_MD_trust_40 ?_
          exact w_MD_trust_c41 C Rt  x1 x2 x3 x4 (0 : Int32) σ hf
        · have hf := o_it c23 hf
          exact w_MD_trust_c26 C Rt  x1 x2 x3 x4 σ hf
end
