/-! ===== TwigMatchesModel.moves(III)I ===== -/
theorem dX8_moves_0 : decode cX8_moves 0 = .ok (.aload_n 0, 1) := by decide +kernel
theorem dX8_moves_1 : decode cX8_moves 1 = .ok (.iload_n 1, 1) := by decide +kernel
theorem dX8_moves_2 : decode cX8_moves 2 = .ok (.invokevirtual 126, 3) := by decide +kernel
theorem dX8_moves_5 : decode cX8_moves 5 = .ok (.ifCond .eq 40, 3) := by decide +kernel
theorem dX8_moves_8 : decode cX8_moves 8 = .ok (.aload_n 0, 1) := by decide +kernel
theorem dX8_moves_9 : decode cX8_moves 9 = .ok (.iload_n 2, 1) := by decide +kernel
theorem dX8_moves_10 : decode cX8_moves 10 = .ok (.invokevirtual 126, 3) := by decide +kernel
theorem dX8_moves_13 : decode cX8_moves 13 = .ok (.ifCond .eq 32, 3) := by decide +kernel
theorem dX8_moves_16 : decode cX8_moves 16 = .ok (.iload_n 3, 1) := by decide +kernel
theorem dX8_moves_17 : decode cX8_moves 17 = .ok (.iconst 0, 1) := by decide +kernel
theorem dX8_moves_18 : decode cX8_moves 18 = .ok (.aload_n 0, 1) := by decide +kernel
theorem dX8_moves_19 : decode cX8_moves 19 = .ok (.iload_n 2, 1) := by decide +kernel
theorem dX8_moves_20 : decode cX8_moves 20 = .ok (.invokevirtual 130, 3) := by decide +kernel
theorem dX8_moves_23 : decode cX8_moves 23 = .ok (.aload_n 0, 1) := by decide +kernel
theorem dX8_moves_24 : decode cX8_moves 24 = .ok (.getfield 29, 3) := by decide +kernel
theorem dX8_moves_27 : decode cX8_moves 27 = .ok (.iload_n 1, 1) := by decide +kernel
theorem dX8_moves_28 : decode cX8_moves 28 = .ok (.iaload, 1) := by decide +kernel
theorem dX8_moves_29 : decode cX8_moves 29 = .ok (.iload_n 2, 1) := by decide +kernel
theorem dX8_moves_30 : decode cX8_moves 30 = .ok (.if_icmp .ne 7, 3) := by decide +kernel
theorem dX8_moves_33 : decode cX8_moves 33 = .ok (.iconst 1, 1) := by decide +kernel
theorem dX8_moves_34 : decode cX8_moves 34 = .ok (.goto 4, 3) := by decide +kernel
theorem dX8_moves_37 : decode cX8_moves 37 = .ok (.iconst 0, 1) := by decide +kernel
theorem dX8_moves_38 : decode cX8_moves 38 = .ok (.isub, 1) := by decide +kernel
theorem dX8_moves_39 : decode cX8_moves 39 = .ok (.invokestatic 90, 3) := by decide +kernel
theorem dX8_moves_42 : decode cX8_moves 42 = .ok (.ifCond .ne 8, 3) := by decide +kernel
theorem dX8_moves_45 : decode cX8_moves 45 = .ok (.aload_n 0, 1) := by decide +kernel
theorem dX8_moves_46 : decode cX8_moves 46 = .ok (.invokevirtual 134, 3) := by decide +kernel
theorem dX8_moves_49 : decode cX8_moves 49 = .ok (.ireturn, 1) := by decide +kernel
theorem dX8_moves_50 : decode cX8_moves 50 = .ok (.iload_n 1, 1) := by decide +kernel
theorem dX8_moves_51 : decode cX8_moves 51 = .ok (.ifCond .eq 18, 3) := by decide +kernel
theorem dX8_moves_54 : decode cX8_moves 54 = .ok (.iload_n 2, 1) := by decide +kernel
theorem dX8_moves_55 : decode cX8_moves 55 = .ok (.iload_n 1, 1) := by decide +kernel
theorem dX8_moves_56 : decode cX8_moves 56 = .ok (.if_icmp .lt 18, 3) := by decide +kernel
theorem dX8_moves_59 : decode cX8_moves 59 = .ok (.iload_n 2, 1) := by decide +kernel
theorem dX8_moves_60 : decode cX8_moves 60 = .ok (.aload_n 0, 1) := by decide +kernel
theorem dX8_moves_61 : decode cX8_moves 61 = .ok (.getfield 26, 3) := by decide +kernel
theorem dX8_moves_64 : decode cX8_moves 64 = .ok (.iload_n 1, 1) := by decide +kernel
theorem dX8_moves_65 : decode cX8_moves 65 = .ok (.iaload, 1) := by decide +kernel
theorem dX8_moves_66 : decode cX8_moves 66 = .ok (.if_icmp .ge 8, 3) := by decide +kernel
theorem dX8_moves_69 : decode cX8_moves 69 = .ok (.aload_n 0, 1) := by decide +kernel
theorem dX8_moves_70 : decode cX8_moves 70 = .ok (.invokevirtual 119, 3) := by decide +kernel
theorem dX8_moves_73 : decode cX8_moves 73 = .ok (.ireturn, 1) := by decide +kernel
theorem dX8_moves_74 : decode cX8_moves 74 = .ok (.aload_n 0, 1) := by decide +kernel
theorem dX8_moves_75 : decode cX8_moves 75 = .ok (.getfield 23, 3) := by decide +kernel
theorem dX8_moves_78 : decode cX8_moves 78 = .ok (.iload_n 2, 1) := by decide +kernel
theorem dX8_moves_79 : decode cX8_moves 79 = .ok (.iaload, 1) := by decide +kernel
theorem dX8_moves_80 : decode cX8_moves 80 = .ok (.iconst 1, 1) := by decide +kernel
theorem dX8_moves_81 : decode cX8_moves 81 = .ok (.iadd, 1) := by decide +kernel
theorem dX8_moves_82 : decode cX8_moves 82 = .ok (.aload_n 0, 1) := by decide +kernel
theorem dX8_moves_83 : decode cX8_moves 83 = .ok (.getfield 23, 3) := by decide +kernel
theorem dX8_moves_86 : decode cX8_moves 86 = .ok (.iload_n 1, 1) := by decide +kernel
theorem dX8_moves_87 : decode cX8_moves 87 = .ok (.iaload, 1) := by decide +kernel
theorem dX8_moves_88 : decode cX8_moves 88 = .ok (.isub, 1) := by decide +kernel
theorem dX8_moves_89 : decode cX8_moves 89 = .ok (.istore 4, 2) := by decide +kernel
theorem dX8_moves_91 : decode cX8_moves 91 = .ok (.aload_n 0, 1) := by decide +kernel
theorem dX8_moves_92 : decode cX8_moves 92 = .ok (.iload_n 1, 1) := by decide +kernel
theorem dX8_moves_93 : decode cX8_moves 93 = .ok (.invokevirtual 152, 3) := by decide +kernel
theorem dX8_moves_96 : decode cX8_moves 96 = .ok (.iload 4, 2) := by decide +kernel
theorem dX8_moves_98 : decode cX8_moves 98 = .ok (.iadd, 1) := by decide +kernel
theorem dX8_moves_99 : decode cX8_moves 99 = .ok (.bipush 10, 2) := by decide +kernel
theorem dX8_moves_101 : decode cX8_moves 101 = .ok (.if_icmp .le 8, 3) := by decide +kernel
theorem dX8_moves_104 : decode cX8_moves 104 = .ok (.aload_n 0, 1) := by decide +kernel
theorem dX8_moves_105 : decode cX8_moves 105 = .ok (.invokevirtual 119, 3) := by decide +kernel
theorem dX8_moves_108 : decode cX8_moves 108 = .ok (.ireturn, 1) := by decide +kernel
theorem dX8_moves_109 : decode cX8_moves 109 = .ok (.aload_n 0, 1) := by decide +kernel
theorem dX8_moves_110 : decode cX8_moves 110 = .ok (.invokevirtual 140, 3) := by decide +kernel
theorem dX8_moves_113 : decode cX8_moves 113 = .ok (.aload_n 0, 1) := by decide +kernel
theorem dX8_moves_114 : decode cX8_moves 114 = .ok (.getfield 26, 3) := by decide +kernel
theorem dX8_moves_117 : decode cX8_moves 117 = .ok (.iload_n 1, 1) := by decide +kernel
theorem dX8_moves_118 : decode cX8_moves 118 = .ok (.iaload, 1) := by decide +kernel
theorem dX8_moves_119 : decode cX8_moves 119 = .ok (.iload_n 1, 1) := by decide +kernel
theorem dX8_moves_120 : decode cX8_moves 120 = .ok (.isub, 1) := by decide +kernel
theorem dX8_moves_121 : decode cX8_moves 121 = .ok (.istore 5, 2) := by decide +kernel
theorem dX8_moves_123 : decode cX8_moves 123 = .ok (.iconst 0, 1) := by decide +kernel
theorem dX8_moves_124 : decode cX8_moves 124 = .ok (.istore 6, 2) := by decide +kernel
theorem dX8_moves_126 : decode cX8_moves 126 = .ok (.iload 6, 2) := by decide +kernel
theorem dX8_moves_128 : decode cX8_moves 128 = .ok (.iload 5, 2) := by decide +kernel
theorem dX8_moves_130 : decode cX8_moves 130 = .ok (.if_icmp .ge 70, 3) := by decide +kernel
theorem dX8_moves_133 : decode cX8_moves 133 = .ok (.aload_n 0, 1) := by decide +kernel
theorem dX8_moves_134 : decode cX8_moves 134 = .ok (.getfield 41, 3) := by decide +kernel
theorem dX8_moves_137 : decode cX8_moves 137 = .ok (.iconst 3, 1) := by decide +kernel
theorem dX8_moves_138 : decode cX8_moves 138 = .ok (.iload 6, 2) := by decide +kernel
theorem dX8_moves_140 : decode cX8_moves 140 = .ok (.imul, 1) := by decide +kernel
theorem dX8_moves_141 : decode cX8_moves 141 = .ok (.aload_n 0, 1) := by decide +kernel
theorem dX8_moves_142 : decode cX8_moves 142 = .ok (.getfield 17, 3) := by decide +kernel
theorem dX8_moves_145 : decode cX8_moves 145 = .ok (.iload_n 1, 1) := by decide +kernel
theorem dX8_moves_146 : decode cX8_moves 146 = .ok (.iload 6, 2) := by decide +kernel
theorem dX8_moves_148 : decode cX8_moves 148 = .ok (.iadd, 1) := by decide +kernel
theorem dX8_moves_149 : decode cX8_moves 149 = .ok (.iaload, 1) := by decide +kernel
theorem dX8_moves_150 : decode cX8_moves 150 = .ok (.iastore, 1) := by decide +kernel
theorem dX8_moves_151 : decode cX8_moves 151 = .ok (.aload_n 0, 1) := by decide +kernel
theorem dX8_moves_152 : decode cX8_moves 152 = .ok (.getfield 41, 3) := by decide +kernel
theorem dX8_moves_155 : decode cX8_moves 155 = .ok (.iconst 3, 1) := by decide +kernel
theorem dX8_moves_156 : decode cX8_moves 156 = .ok (.iload 6, 2) := by decide +kernel
theorem dX8_moves_158 : decode cX8_moves 158 = .ok (.imul, 1) := by decide +kernel
theorem dX8_moves_159 : decode cX8_moves 159 = .ok (.iconst 1, 1) := by decide +kernel
theorem dX8_moves_160 : decode cX8_moves 160 = .ok (.iadd, 1) := by decide +kernel
theorem dX8_moves_161 : decode cX8_moves 161 = .ok (.aload_n 0, 1) := by decide +kernel
theorem dX8_moves_162 : decode cX8_moves 162 = .ok (.getfield 20, 3) := by decide +kernel
theorem dX8_moves_165 : decode cX8_moves 165 = .ok (.iload_n 1, 1) := by decide +kernel
theorem dX8_moves_166 : decode cX8_moves 166 = .ok (.iload 6, 2) := by decide +kernel
theorem dX8_moves_168 : decode cX8_moves 168 = .ok (.iadd, 1) := by decide +kernel
theorem dX8_moves_169 : decode cX8_moves 169 = .ok (.iaload, 1) := by decide +kernel
theorem dX8_moves_170 : decode cX8_moves 170 = .ok (.iastore, 1) := by decide +kernel
theorem dX8_moves_171 : decode cX8_moves 171 = .ok (.aload_n 0, 1) := by decide +kernel
theorem dX8_moves_172 : decode cX8_moves 172 = .ok (.getfield 41, 3) := by decide +kernel
theorem dX8_moves_175 : decode cX8_moves 175 = .ok (.iconst 3, 1) := by decide +kernel
theorem dX8_moves_176 : decode cX8_moves 176 = .ok (.iload 6, 2) := by decide +kernel
theorem dX8_moves_178 : decode cX8_moves 178 = .ok (.imul, 1) := by decide +kernel
theorem dX8_moves_179 : decode cX8_moves 179 = .ok (.iconst 2, 1) := by decide +kernel
theorem dX8_moves_180 : decode cX8_moves 180 = .ok (.iadd, 1) := by decide +kernel
theorem dX8_moves_181 : decode cX8_moves 181 = .ok (.aload_n 0, 1) := by decide +kernel
theorem dX8_moves_182 : decode cX8_moves 182 = .ok (.getfield 23, 3) := by decide +kernel
theorem dX8_moves_185 : decode cX8_moves 185 = .ok (.iload_n 1, 1) := by decide +kernel
theorem dX8_moves_186 : decode cX8_moves 186 = .ok (.iload 6, 2) := by decide +kernel
theorem dX8_moves_188 : decode cX8_moves 188 = .ok (.iadd, 1) := by decide +kernel
theorem dX8_moves_189 : decode cX8_moves 189 = .ok (.iaload, 1) := by decide +kernel
theorem dX8_moves_190 : decode cX8_moves 190 = .ok (.iload 4, 2) := by decide +kernel
theorem dX8_moves_192 : decode cX8_moves 192 = .ok (.iadd, 1) := by decide +kernel
theorem dX8_moves_193 : decode cX8_moves 193 = .ok (.iastore, 1) := by decide +kernel
theorem dX8_moves_194 : decode cX8_moves 194 = .ok (.iinc 6 1, 3) := by decide +kernel
theorem dX8_moves_197 : decode cX8_moves 197 = .ok (.goto (-71), 3) := by decide +kernel
theorem dX8_moves_200 : decode cX8_moves 200 = .ok (.aload_n 0, 1) := by decide +kernel
theorem dX8_moves_201 : decode cX8_moves 201 = .ok (.iload_n 1, 1) := by decide +kernel
theorem dX8_moves_202 : decode cX8_moves 202 = .ok (.iload 5, 2) := by decide +kernel
theorem dX8_moves_204 : decode cX8_moves 204 = .ok (.invokevirtual 149, 3) := by decide +kernel
theorem dX8_moves_207 : decode cX8_moves 207 = .ok (.aload_n 0, 1) := by decide +kernel
theorem dX8_moves_208 : decode cX8_moves 208 = .ok (.invokevirtual 123, 3) := by decide +kernel
theorem dX8_moves_211 : decode cX8_moves 211 = .ok (.aload_n 0, 1) := by decide +kernel
theorem dX8_moves_212 : decode cX8_moves 212 = .ok (.iload_n 2, 1) := by decide +kernel
theorem dX8_moves_213 : decode cX8_moves 213 = .ok (.iload_n 1, 1) := by decide +kernel
theorem dX8_moves_214 : decode cX8_moves 214 = .ok (.if_icmp .le 10, 3) := by decide +kernel
theorem dX8_moves_217 : decode cX8_moves 217 = .ok (.iload_n 2, 1) := by decide +kernel
theorem dX8_moves_218 : decode cX8_moves 218 = .ok (.iload 5, 2) := by decide +kernel
theorem dX8_moves_220 : decode cX8_moves 220 = .ok (.isub, 1) := by decide +kernel
theorem dX8_moves_221 : decode cX8_moves 221 = .ok (.goto 4, 3) := by decide +kernel
theorem dX8_moves_224 : decode cX8_moves 224 = .ok (.iload_n 2, 1) := by decide +kernel
theorem dX8_moves_225 : decode cX8_moves 225 = .ok (.iload_n 3, 1) := by decide +kernel
theorem dX8_moves_226 : decode cX8_moves 226 = .ok (.invokevirtual 143, 3) := by decide +kernel
theorem dX8_moves_229 : decode cX8_moves 229 = .ok (.istore 6, 2) := by decide +kernel
theorem dX8_moves_231 : decode cX8_moves 231 = .ok (.aload_n 0, 1) := by decide +kernel
theorem dX8_moves_232 : decode cX8_moves 232 = .ok (.iload 6, 2) := by decide +kernel
theorem dX8_moves_234 : decode cX8_moves 234 = .ok (.iload 5, 2) := by decide +kernel
theorem dX8_moves_236 : decode cX8_moves 236 = .ok (.invokevirtual 146, 3) := by decide +kernel
theorem dX8_moves_239 : decode cX8_moves 239 = .ok (.iconst 0, 1) := by decide +kernel
theorem dX8_moves_240 : decode cX8_moves 240 = .ok (.istore 7, 2) := by decide +kernel
theorem dX8_moves_242 : decode cX8_moves 242 = .ok (.iload 7, 2) := by decide +kernel
theorem dX8_moves_244 : decode cX8_moves 244 = .ok (.iload 5, 2) := by decide +kernel
theorem dX8_moves_246 : decode cX8_moves 246 = .ok (.if_icmp .ge 70, 3) := by decide +kernel
theorem dX8_moves_249 : decode cX8_moves 249 = .ok (.aload_n 0, 1) := by decide +kernel
theorem dX8_moves_250 : decode cX8_moves 250 = .ok (.getfield 17, 3) := by decide +kernel
theorem dX8_moves_253 : decode cX8_moves 253 = .ok (.iload 6, 2) := by decide +kernel
theorem dX8_moves_255 : decode cX8_moves 255 = .ok (.iload 7, 2) := by decide +kernel
theorem dX8_moves_257 : decode cX8_moves 257 = .ok (.iadd, 1) := by decide +kernel
theorem dX8_moves_258 : decode cX8_moves 258 = .ok (.aload_n 0, 1) := by decide +kernel
theorem dX8_moves_259 : decode cX8_moves 259 = .ok (.getfield 41, 3) := by decide +kernel
theorem dX8_moves_262 : decode cX8_moves 262 = .ok (.iconst 3, 1) := by decide +kernel
theorem dX8_moves_263 : decode cX8_moves 263 = .ok (.iload 7, 2) := by decide +kernel
theorem dX8_moves_265 : decode cX8_moves 265 = .ok (.imul, 1) := by decide +kernel
theorem dX8_moves_266 : decode cX8_moves 266 = .ok (.iaload, 1) := by decide +kernel
theorem dX8_moves_267 : decode cX8_moves 267 = .ok (.iastore, 1) := by decide +kernel
theorem dX8_moves_268 : decode cX8_moves 268 = .ok (.aload_n 0, 1) := by decide +kernel
theorem dX8_moves_269 : decode cX8_moves 269 = .ok (.getfield 20, 3) := by decide +kernel
theorem dX8_moves_272 : decode cX8_moves 272 = .ok (.iload 6, 2) := by decide +kernel
theorem dX8_moves_274 : decode cX8_moves 274 = .ok (.iload 7, 2) := by decide +kernel
theorem dX8_moves_276 : decode cX8_moves 276 = .ok (.iadd, 1) := by decide +kernel
theorem dX8_moves_277 : decode cX8_moves 277 = .ok (.aload_n 0, 1) := by decide +kernel
theorem dX8_moves_278 : decode cX8_moves 278 = .ok (.getfield 41, 3) := by decide +kernel
theorem dX8_moves_281 : decode cX8_moves 281 = .ok (.iconst 3, 1) := by decide +kernel
theorem dX8_moves_282 : decode cX8_moves 282 = .ok (.iload 7, 2) := by decide +kernel
theorem dX8_moves_284 : decode cX8_moves 284 = .ok (.imul, 1) := by decide +kernel
theorem dX8_moves_285 : decode cX8_moves 285 = .ok (.iconst 1, 1) := by decide +kernel
theorem dX8_moves_286 : decode cX8_moves 286 = .ok (.iadd, 1) := by decide +kernel
theorem dX8_moves_287 : decode cX8_moves 287 = .ok (.iaload, 1) := by decide +kernel
theorem dX8_moves_288 : decode cX8_moves 288 = .ok (.iastore, 1) := by decide +kernel
theorem dX8_moves_289 : decode cX8_moves 289 = .ok (.aload_n 0, 1) := by decide +kernel
theorem dX8_moves_290 : decode cX8_moves 290 = .ok (.getfield 23, 3) := by decide +kernel
theorem dX8_moves_293 : decode cX8_moves 293 = .ok (.iload 6, 2) := by decide +kernel
theorem dX8_moves_295 : decode cX8_moves 295 = .ok (.iload 7, 2) := by decide +kernel
theorem dX8_moves_297 : decode cX8_moves 297 = .ok (.iadd, 1) := by decide +kernel
theorem dX8_moves_298 : decode cX8_moves 298 = .ok (.aload_n 0, 1) := by decide +kernel
theorem dX8_moves_299 : decode cX8_moves 299 = .ok (.getfield 41, 3) := by decide +kernel
theorem dX8_moves_302 : decode cX8_moves 302 = .ok (.iconst 3, 1) := by decide +kernel
theorem dX8_moves_303 : decode cX8_moves 303 = .ok (.iload 7, 2) := by decide +kernel
theorem dX8_moves_305 : decode cX8_moves 305 = .ok (.imul, 1) := by decide +kernel
theorem dX8_moves_306 : decode cX8_moves 306 = .ok (.iconst 2, 1) := by decide +kernel
theorem dX8_moves_307 : decode cX8_moves 307 = .ok (.iadd, 1) := by decide +kernel
theorem dX8_moves_308 : decode cX8_moves 308 = .ok (.iaload, 1) := by decide +kernel
theorem dX8_moves_309 : decode cX8_moves 309 = .ok (.iastore, 1) := by decide +kernel
theorem dX8_moves_310 : decode cX8_moves 310 = .ok (.iinc 7 1, 3) := by decide +kernel
theorem dX8_moves_313 : decode cX8_moves 313 = .ok (.goto (-71), 3) := by decide +kernel
theorem dX8_moves_316 : decode cX8_moves 316 = .ok (.aload_n 0, 1) := by decide +kernel
theorem dX8_moves_317 : decode cX8_moves 317 = .ok (.invokevirtual 123, 3) := by decide +kernel
theorem dX8_moves_320 : decode cX8_moves 320 = .ok (.iload 6, 2) := by decide +kernel
theorem dX8_moves_322 : decode cX8_moves 322 = .ok (.ireturn, 1) := by decide +kernel
set_option maxHeartbeats 4000000 in
set_option maxRecDepth 100000 in
theorem c_X8_moves (l : Launch) (B : Nat) (D : va_G) (cA : Nat → ClassId) (m : Mm) (x0 : Nat) (x1 : Int32) (x2 : Int32) (x3 : Int32) (rZ : Int32) (mZ : Mm) (hf : f_X8_moves m x0 x1 x2 x3 = some (rZ, mZ)) : Mt l B D cA yX8_moves cX8_moves 8 (some .int) 2 45 0 0 [.ref (B + x0), .int x1, .int x2, .int x3] m (some (.int rZ)) mZ := by
  refine r_start (by decide) (Nat.le_of_ble_eq_true rfl) ?_
  intro p e s mt args below meth c ls H locs X hr hlocks hnm hR hl hS
  have hx := X.1
  have hb := X.2.1
  have hl : lv_has ls 8 [(0, .ref (B + x0)), (1, .int x1), (2, .int x2), (3, .int x3)] := hl
  unfold f_X8_moves at hf
  refine lv_aload_n hx hb dX8_moves_0 rfl (lv_at hl 0 rfl) ?_
  refine lv_iload_n hx hb dX8_moves_1 rfl (lv_at hl 1 rfl) ?_
  obtain ⟨o1, h2, hf⟩ := obO hf
  obtain ⟨v4, g3, hf⟩ := ob hf
  refine r_callV X kw_X8_126 (ci := 8) rfl (c_X8_isElement l B D cA m x0 x1 v4 g3) ⟨Nat.le_of_ble_eq_true rfl, Nat.le_of_ble_eq_true rfl⟩ h2 hR hS hl.1 rfl rfl (Nat.le_of_ble_eq_true rfl) ⟨Nat.le_of_ble_eq_true rfl, Nat.le_of_ble_eq_true rfl⟩ dX8_moves_2 (fun H locs hR hS => ?_)
  refine W.eq (g2 := F0 mt 5 ls [.int v4]) rfl ?_
  refine lv_if_eq (tgt := 45) hx hb dX8_moves_5 (by decide) (fun c5 => ?_) (fun c5 => ?_)
  · rw [if_pos c5] at hf
    refine lv_aload_n hx hb dX8_moves_45 rfl (lv_at hl 0 rfl) ?_
    obtain ⟨o6, h7, hf⟩ := obO hf
    obtain ⟨t9, g8, hf⟩ := ob hf
    refine r_callV X kw_X8_134 (ci := 8) rfl (c_X8_bad l B D cA m x0 t9.1 t9.2 g8) ⟨Nat.le_of_ble_eq_true rfl, Nat.le_of_ble_eq_true rfl⟩ h7 hR hS hl.1 rfl rfl (Nat.le_of_ble_eq_true rfl) ⟨Nat.le_of_ble_eq_true rfl, Nat.le_of_ble_eq_true rfl⟩ dX8_moves_46 (fun H locs hR hS => ?_)
    refine W.eq (g2 := F0 mt 49 ls [.int t9.1]) rfl ?_
    obtain ⟨rfl, rfl⟩ := Prod.mk.inj (Option.some.inj hf)
    exact r_iret X hr hlocks hR hS rfl dX8_moves_49
  · rw [if_neg c5] at hf
    refine lv_aload_n hx hb dX8_moves_8 rfl (lv_at hl 0 rfl) ?_
    refine lv_iload_n hx hb dX8_moves_9 rfl (lv_at hl 2 rfl) ?_
    obtain ⟨o10, h11, hf⟩ := obO hf
    obtain ⟨v13, g12, hf⟩ := ob hf
    refine r_callV X kw_X8_126 (ci := 8) rfl (c_X8_isElement l B D cA m x0 x2 v13 g12) ⟨Nat.le_of_ble_eq_true rfl, Nat.le_of_ble_eq_true rfl⟩ h11 hR hS hl.1 rfl rfl (Nat.le_of_ble_eq_true rfl) ⟨Nat.le_of_ble_eq_true rfl, Nat.le_of_ble_eq_true rfl⟩ dX8_moves_10 (fun H locs hR hS => ?_)
    refine W.eq (g2 := F0 mt 13 ls [.int v13]) rfl ?_
    refine lv_if_eq (tgt := 45) hx hb dX8_moves_13 (by decide) (fun c14 => ?_) (fun c14 => ?_)
    · rw [if_pos c14] at hf
      refine lv_aload_n hx hb dX8_moves_45 rfl (lv_at hl 0 rfl) ?_
      obtain ⟨o15, h16, hf⟩ := obO hf
      obtain ⟨t18, g17, hf⟩ := ob hf
      refine r_callV X kw_X8_134 (ci := 8) rfl (c_X8_bad l B D cA m x0 t18.1 t18.2 g17) ⟨Nat.le_of_ble_eq_true rfl, Nat.le_of_ble_eq_true rfl⟩ h16 hR hS hl.1 rfl rfl (Nat.le_of_ble_eq_true rfl) ⟨Nat.le_of_ble_eq_true rfl, Nat.le_of_ble_eq_true rfl⟩ dX8_moves_46 (fun H locs hR hS => ?_)
      refine W.eq (g2 := F0 mt 49 ls [.int t18.1]) rfl ?_
      obtain ⟨rfl, rfl⟩ := Prod.mk.inj (Option.some.inj hf)
      exact r_iret X hr hlocks hR hS rfl dX8_moves_49
    · rw [if_neg c14] at hf
      refine lv_iload_n hx hb dX8_moves_16 rfl (lv_at hl 3 rfl) ?_
      refine lv_iconst (v := 0) hx hb dX8_moves_17 (by decide) ?_
      refine lv_aload_n hx hb dX8_moves_18 rfl (lv_at hl 0 rfl) ?_
      refine lv_iload_n hx hb dX8_moves_19 rfl (lv_at hl 2 rfl) ?_
      obtain ⟨o19, h20, hf⟩ := obO hf
      obtain ⟨v22, g21, hf⟩ := ob hf
      refine r_callV X kw_X8_130 (ci := 8) rfl (c_X8_children l B D cA m x0 x2 v22 g21) ⟨Nat.le_of_ble_eq_true rfl, Nat.le_of_ble_eq_true rfl⟩ h20 hR hS hl.1 rfl rfl (Nat.le_of_ble_eq_true rfl) ⟨Nat.le_of_ble_eq_true rfl, Nat.le_of_ble_eq_true rfl⟩ dX8_moves_20 (fun H locs hR hS => ?_)
      refine W.eq (g2 := F0 mt 23 ls [.int v22, .int (0 : Int32), .int x3]) rfl ?_
      refine lv_aload_n hx hb dX8_moves_23 rfl (lv_at hl 0 rfl) ?_
      obtain ⟨v23, g24, hf⟩ := ob hf
      refine gR_X8_29 X hR g24 dX8_moves_24 ?_
      refine lv_iload_n hx hb dX8_moves_27 rfl (lv_at hl 1 rfl) ?_
      obtain ⟨v25, g26, hf⟩ := ob hf
      refine r_lI X hR g26 dX8_moves_28 ?_
      refine lv_iload_n hx hb dX8_moves_29 rfl (lv_at hl 2 rfl) ?_
      obtain ⟨t27, hjt27, hf⟩ := ob hf
      have hJt27 : ∀ (H : Heap) (locs : List Loc) (ls : Array Slot), Rl B D cA m H → va_S (fun q => B ≤ q) s.heap H locs → lv_has ls 8 [(0, .ref (B + x0)), (1, .int x1), (2, .int x2), (3, .int x3)] → W p l e (rmm 2 0 0 45) s mt args below meth c H locs 0 0 (MQ below (mQ B D cA (some (.int rZ)) mZ) args s 0 0 (fun q => B ≤ q)) (F0 mt 38 ls [.int t27, .int v22, .int (0 : Int32), .int x3]) := by
        intro H locs ls hR hS hl
        refine lv_isub hx hb dX8_moves_38 ?_
        obtain ⟨v30, g29, hf⟩ := ob hf
        refine r_callS X kw_X8_90 (c_X8_in l B D cA m x3 (0 : Int32) (v22 - t27) v30 g29) ⟨Nat.le_of_ble_eq_true rfl, Nat.le_of_ble_eq_true rfl⟩ hR hS hl.1 rfl rfl (Nat.le_of_ble_eq_true rfl) ⟨Nat.le_of_ble_eq_true rfl, Nat.le_of_ble_eq_true rfl⟩ dX8_moves_39 (fun H locs hR hS => ?_)
        refine W.eq (g2 := F0 mt 42 ls [.int v30]) rfl ?_
        refine lv_if_ne (tgt := 50) hx hb dX8_moves_42 (by decide) (fun c31 => ?_) (fun c31 => ?_)
        · rw [if_neg c31] at hf
          refine lv_iload_n hx hb dX8_moves_50 rfl (lv_at hl 1 rfl) ?_
          refine lv_if_eq (tgt := 69) hx hb dX8_moves_51 (by decide) (fun c32 => ?_) (fun c32 => ?_)
          · rw [if_pos c32] at hf
            refine lv_aload_n hx hb dX8_moves_69 rfl (lv_at hl 0 rfl) ?_
            obtain ⟨o33, h34, hf⟩ := obO hf
            obtain ⟨t36, g35, hf⟩ := ob hf
            refine r_callV X kw_X8_119 (ci := 8) rfl (c_X8_no l B D cA m x0 t36.1 t36.2 g35) ⟨Nat.le_of_ble_eq_true rfl, Nat.le_of_ble_eq_true rfl⟩ h34 hR hS hl.1 rfl rfl (Nat.le_of_ble_eq_true rfl) ⟨Nat.le_of_ble_eq_true rfl, Nat.le_of_ble_eq_true rfl⟩ dX8_moves_70 (fun H locs hR hS => ?_)
            refine W.eq (g2 := F0 mt 73 ls [.int t36.1]) rfl ?_
            obtain ⟨rfl, rfl⟩ := Prod.mk.inj (Option.some.inj hf)
            exact r_iret X hr hlocks hR hS rfl dX8_moves_73
          · rw [if_neg c32] at hf
            refine lv_iload_n hx hb dX8_moves_54 rfl (lv_at hl 2 rfl) ?_
            refine lv_iload_n hx hb dX8_moves_55 rfl (lv_at hl 1 rfl) ?_
            have hJ74 : ∀  (H : Heap) (locs : List Loc) (ls : Array Slot), f_X8_moves_J74 m x0 x1 x2 x3 = some (rZ, mZ) → Rl B D cA m H → va_S (fun q => B ≤ q) s.heap H locs → lv_has ls 8 [(0, .ref (B + x0)), (1, .int x1), (2, .int x2), (3, .int x3)] → W p l e (rmm 2 0 0 45) s mt args below meth c H locs 0 0 (MQ below (mQ B D cA (some (.int rZ)) mZ) args s 0 0 (fun q => B ≤ q)) (F0 mt 74 ls []) := by
              intro  H locs ls hf hR hS hl
              unfold f_X8_moves_J74 at hf
              refine lv_aload_n hx hb dX8_moves_74 rfl (lv_at hl 0 rfl) ?_
              obtain ⟨v37, g38, hf⟩ := ob hf
              refine gR_X8_23 X hR g38 dX8_moves_75 ?_
              refine lv_iload_n hx hb dX8_moves_78 rfl (lv_at hl 2 rfl) ?_
              obtain ⟨v39, g40, hf⟩ := ob hf
              refine r_lI X hR g40 dX8_moves_79 ?_
              refine lv_iconst (v := 1) hx hb dX8_moves_80 (by decide) ?_
              refine lv_iadd hx hb dX8_moves_81 ?_
              refine lv_aload_n hx hb dX8_moves_82 rfl (lv_at hl 0 rfl) ?_
              obtain ⟨v41, g42, hf⟩ := ob hf
              refine gR_X8_23 X hR g42 dX8_moves_83 ?_
              refine lv_iload_n hx hb dX8_moves_86 rfl (lv_at hl 1 rfl) ?_
              obtain ⟨v43, g44, hf⟩ := ob hf
              refine r_lI X hR g44 dX8_moves_87 ?_
              refine lv_isub hx hb dX8_moves_88 ?_
              refine lv_istore (lv' := [(4, .int ((v39 + (1 : Int32)) - v43)), (0, .ref (B + x0)), (1, .int x1), (2, .int x2), (3, .int x3)]) hx hb dX8_moves_89 hl (by decide) rfl (fun ls hl => ?_)
              refine lv_aload_n hx hb dX8_moves_91 rfl (lv_at hl 1 rfl) ?_
              refine lv_iload_n hx hb dX8_moves_92 rfl (lv_at hl 2 rfl) ?_
              obtain ⟨o45, h46, hf⟩ := obO hf
              obtain ⟨v48, g47, hf⟩ := ob hf
              refine r_callV X kw_X8_152 (ci := 8) rfl (c_X8_deepest l B D cA m x0 x1 v48 g47) ⟨Nat.le_of_ble_eq_true rfl, Nat.le_of_ble_eq_true rfl⟩ h46 hR hS hl.1 rfl rfl (Nat.le_of_ble_eq_true rfl) ⟨Nat.le_of_ble_eq_true rfl, Nat.le_of_ble_eq_true rfl⟩ dX8_moves_93 (fun H locs hR hS => ?_)
              refine W.eq (g2 := F0 mt 96 ls [.int v48]) rfl ?_
              refine lv_iload hx hb dX8_moves_96 (lv_at hl 0 rfl) ?_
              refine lv_iadd hx hb dX8_moves_98 ?_
              refine lv_bipush (v := 10) hx hb dX8_moves_99 (by decide) ?_
              refine lv_icmp_le (tgt := 109) hx hb dX8_moves_101 (by decide) (fun c49 => ?_) (fun c49 => ?_)
              · rw [if_pos c49] at hf
                refine lv_aload_n hx hb dX8_moves_109 rfl (lv_at hl 1 rfl) ?_
                obtain ⟨o50, h51, hf⟩ := obO hf
                obtain ⟨m53, g52, hf⟩ := ob hf
                refine r_callV X kw_X8_140 (ci := 8) rfl (c_X8_leavesState l B D cA m x0 m53 g52) ⟨Nat.le_of_ble_eq_true rfl, Nat.le_of_ble_eq_true rfl⟩ h51 hR hS hl.1 rfl rfl (Nat.le_of_ble_eq_true rfl) ⟨Nat.le_of_ble_eq_true rfl, Nat.le_of_ble_eq_true rfl⟩ dX8_moves_110 (fun H locs hR hS => ?_)
                refine W.eq (g2 := F0 mt 113 ls []) rfl ?_
                refine lv_aload_n hx hb dX8_moves_113 rfl (lv_at hl 1 rfl) ?_
                obtain ⟨v54, g55, hf⟩ := ob hf
                refine gR_X8_26 X hR g55 dX8_moves_114 ?_
                refine lv_iload_n hx hb dX8_moves_117 rfl (lv_at hl 2 rfl) ?_
                obtain ⟨v56, g57, hf⟩ := ob hf
                refine r_lI X hR g57 dX8_moves_118 ?_
                refine lv_iload_n hx hb dX8_moves_119 rfl (lv_at hl 2 rfl) ?_
                refine lv_isub hx hb dX8_moves_120 ?_
                refine lv_istore (lv' := [(5, .int (v56 - x1)), (4, .int ((v39 + (1 : Int32)) - v43)), (0, .ref (B + x0)), (1, .int x1), (2, .int x2), (3, .int x3)]) hx hb dX8_moves_121 hl (by decide) rfl (fun ls hl => ?_)
                refine lv_iconst (v := 0) hx hb dX8_moves_123 (by decide) ?_
                refine lv_istore (lv' := [(6, .int (0 : Int32)), (5, .int (v56 - x1)), (4, .int ((v39 + (1 : Int32)) - v43)), (0, .ref (B + x0)), (1, .int x1), (2, .int x2), (3, .int x3)]) hx hb dX8_moves_124 hl (by decide) rfl (fun ls hl => ?_)
                obtain ⟨e59, hwe59, hf⟩ := ob hf
                refine whl_rule (P := (fun t58 => ∀ (H : Heap) (locs : List Loc) (ls : Array Slot), Rl B D cA t58.2 H → va_S (fun q => B ≤ q) s.heap H locs → lv_has ls 8 [(0, .ref (B + x0)), (1, .int x1), (2, .int x2), (3, .int x3), (4, .int ((v39 + (1 : Int32)) - v43)), (5, .int (v56 - x1)), (6, .int t58.1)] → W p l e (rmm 2 0 0 45) s mt args below meth c H locs 0 0 (MQ below (mQ B D cA (some (.int rZ)) mZ) args s 0 0 (fun q => B ≤ q)) (F0 mt 126 ls []))) (Qx := (fun e59 => ∀ (H : Heap) (locs : List Loc) (ls : Array Slot), Rl B D cA e59 H → va_S (fun q => B ≤ q) s.heap H locs → lv_has ls 8 [(0, .ref (B + x0)), (1, .int x1), (2, .int x2), (3, .int x3), (5, .int (v56 - x1))] → W p l e (rmm 2 0 0 45) s mt args below meth c H locs 0 0 (MQ below (mQ B D cA (some (.int rZ)) mZ) args s 0 0 (fun q => B ≤ q)) (F0 mt 200 ls []))) ?_ FU _ e59 hwe59 ?_ H locs ls hR hS (lv_sub hl [3, 4, 5, 6, 2, 1, 0] rfl)
                · clear hwe59 hf
                  intro t58 q60 hf hxlq60 hxrq60 H locs ls hR hS hl
                  obtain ⟨z61, m62⟩ := t58
                  have hf : f_X8_moves_L126 m62 x0 x1 x2 x3 ((v39 + (1 : Int32)) - v43) (v56 - x1) z61 = some q60 := hf
                  have hR : Rl B D cA m62 H := hR
                  have hl : lv_has ls 8 [(0, .ref (B + x0)), (1, .int x1), (2, .int x2), (3, .int x3), (4, .int ((v39 + (1 : Int32)) - v43)), (5, .int (v56 - x1)), (6, .int z61)] := hl
                  unfold f_X8_moves_L126 at hf
                  refine lv_iload hx hb dX8_moves_126 (lv_at hl 6 rfl) ?_
                  refine lv_iload hx hb dX8_moves_128 (lv_at hl 5 rfl) ?_
                  refine lv_icmp_ge (tgt := 200) hx hb dX8_moves_130 (by decide) (fun c63 => ?_) (fun c63 => ?_)
                  · rw [if_pos c63] at hf
                    obtain rfl := Option.some.inj hf
                    exact hxrq60 _ rfl H locs ls hR hS (lv_sub hl [0, 1, 2, 3, 5] rfl)
                  · rw [if_neg c63] at hf
                    refine lv_aload_n hx hb dX8_moves_133 rfl (lv_at hl 0 rfl) ?_
                    obtain ⟨v64, g65, hf⟩ := ob hf
                    refine gR_X8_41 X hR g65 dX8_moves_134 ?_
                    refine lv_iconst (v := 3) hx hb dX8_moves_137 (by decide) ?_
                    refine lv_iload hx hb dX8_moves_138 (lv_at hl 6 rfl) ?_
                    refine lv_imul hx hb dX8_moves_140 ?_
                    refine lv_aload_n hx hb dX8_moves_141 rfl (lv_at hl 0 rfl) ?_
                    obtain ⟨v66, g67, hf⟩ := ob hf
                    refine gR_X8_17 X hR g67 dX8_moves_142 ?_
                    refine lv_iload_n hx hb dX8_moves_145 rfl (lv_at hl 1 rfl) ?_
                    refine lv_iload hx hb dX8_moves_146 (lv_at hl 6 rfl) ?_
                    refine lv_iadd hx hb dX8_moves_148 ?_
                    obtain ⟨v68, g69, hf⟩ := ob hf
                    refine r_lI X hR g69 dX8_moves_149 ?_
                    obtain ⟨m70, g71, hf⟩ := ob hf
                    refine r_sI X hR hS g71 dX8_moves_150 (fun H locs hR hS => ?_)
                    refine lv_aload_n hx hb dX8_moves_151 rfl (lv_at hl 0 rfl) ?_
                    obtain ⟨v72, g73, hf⟩ := ob hf
                    refine gR_X8_41 X hR g73 dX8_moves_152 ?_
                    refine lv_iconst (v := 3) hx hb dX8_moves_155 (by decide) ?_
                    refine lv_iload hx hb dX8_moves_156 (lv_at hl 6 rfl) ?_
                    refine lv_imul hx hb dX8_moves_158 ?_
                    refine lv_iconst (v := 1) hx hb dX8_moves_159 (by decide) ?_
                    refine lv_iadd hx hb dX8_moves_160 ?_
                    refine lv_aload_n hx hb dX8_moves_161 rfl (lv_at hl 0 rfl) ?_
                    obtain ⟨v74, g75, hf⟩ := ob hf
                    refine gR_X8_20 X hR g75 dX8_moves_162 ?_
                    refine lv_iload_n hx hb dX8_moves_165 rfl (lv_at hl 1 rfl) ?_
                    refine lv_iload hx hb dX8_moves_166 (lv_at hl 6 rfl) ?_
                    refine lv_iadd hx hb dX8_moves_168 ?_
                    obtain ⟨v76, g77, hf⟩ := ob hf
                    refine r_lI X hR g77 dX8_moves_169 ?_
                    obtain ⟨m78, g79, hf⟩ := ob hf
                    refine r_sI X hR hS g79 dX8_moves_170 (fun H locs hR hS => ?_)
                    refine lv_aload_n hx hb dX8_moves_171 rfl (lv_at hl 0 rfl) ?_
                    obtain ⟨v80, g81, hf⟩ := ob hf
                    refine gR_X8_41 X hR g81 dX8_moves_172 ?_
                    refine lv_iconst (v := 3) hx hb dX8_moves_175 (by decide) ?_
                    refine lv_iload hx hb dX8_moves_176 (lv_at hl 6 rfl) ?_
                    refine lv_imul hx hb dX8_moves_178 ?_
                    refine lv_iconst (v := 2) hx hb dX8_moves_179 (by decide) ?_
                    refine lv_iadd hx hb dX8_moves_180 ?_
                    refine lv_aload_n hx hb dX8_moves_181 rfl (lv_at hl 0 rfl) ?_
                    obtain ⟨v82, g83, hf⟩ := ob hf
                    refine gR_X8_23 X hR g83 dX8_moves_182 ?_
                    refine lv_iload_n hx hb dX8_moves_185 rfl (lv_at hl 1 rfl) ?_
                    refine lv_iload hx hb dX8_moves_186 (lv_at hl 6 rfl) ?_
                    refine lv_iadd hx hb dX8_moves_188 ?_
                    obtain ⟨v84, g85, hf⟩ := ob hf
                    refine r_lI X hR g85 dX8_moves_189 ?_
                    refine lv_iload hx hb dX8_moves_190 (lv_at hl 4 rfl) ?_
                    refine lv_iadd hx hb dX8_moves_192 ?_
                    obtain ⟨m86, g87, hf⟩ := ob hf
                    refine r_sI X hR hS g87 dX8_moves_193 (fun H locs hR hS => ?_)
                    refine lv_iinc (v := (z61 + 1)) (lv' := [(6, .int (z61 + 1)), (0, .ref (B + x0)), (1, .int x1), (2, .int x2), (3, .int x3), (4, .int ((v39 + (1 : Int32)) - v43)), (5, .int (v56 - x1))]) hx hb dX8_moves_194 hl (k := 6) rfl (congrArg (fun z => z61 + z) (by decide)) (by decide) rfl (fun ls hl => ?_)
                    refine lv_goto (tgt := 126) hx hb dX8_moves_197 (by decide) ?_
                    obtain rfl := Option.some.inj hf
                    exact hxlq60 _ rfl H locs ls hR hS (lv_sub hl [1, 2, 3, 4, 5, 6, 0] rfl)
                · intro H locs ls hR hS hl
                  refine lv_aload_n hx hb dX8_moves_200 rfl (lv_at hl 0 rfl) ?_
                  refine lv_iload_n hx hb dX8_moves_201 rfl (lv_at hl 1 rfl) ?_
                  refine lv_iload hx hb dX8_moves_202 (lv_at hl 4 rfl) ?_
                  obtain ⟨o88, h89, hf⟩ := obO hf
                  obtain ⟨m91, g90, hf⟩ := ob hf
                  refine r_callV X kw_X8_149 (ci := 8) rfl (c_X8_closes l B D cA e59 x0 x1 (v56 - x1) m91 g90) ⟨Nat.le_of_ble_eq_true rfl, Nat.le_of_ble_eq_true rfl⟩ h89 hR hS hl.1 rfl rfl (Nat.le_of_ble_eq_true rfl) ⟨Nat.le_of_ble_eq_true rfl, Nat.le_of_ble_eq_true rfl⟩ dX8_moves_204 (fun H locs hR hS => ?_)
                  refine W.eq (g2 := F0 mt 207 ls []) rfl ?_
                  refine lv_aload_n hx hb dX8_moves_207 rfl (lv_at hl 0 rfl) ?_
                  obtain ⟨o92, h93, hf⟩ := obO hf
                  obtain ⟨m95, g94, hf⟩ := ob hf
                  refine r_callV X kw_X8_123 (ci := 8) rfl (c_X8_tellsTree l B D cA m91 x0 m95 g94) ⟨Nat.le_of_ble_eq_true rfl, Nat.le_of_ble_eq_true rfl⟩ h93 hR hS hl.1 rfl rfl (Nat.le_of_ble_eq_true rfl) ⟨Nat.le_of_ble_eq_true rfl, Nat.le_of_ble_eq_true rfl⟩ dX8_moves_208 (fun H locs hR hS => ?_)
                  refine W.eq (g2 := F0 mt 211 ls []) rfl ?_
                  refine lv_aload_n hx hb dX8_moves_211 rfl (lv_at hl 0 rfl) ?_
                  refine lv_iload_n hx hb dX8_moves_212 rfl (lv_at hl 2 rfl) ?_
                  refine lv_iload_n hx hb dX8_moves_213 rfl (lv_at hl 1 rfl) ?_
                  obtain ⟨t96, hjt96, hf⟩ := ob hf
                  have hJt96 : ∀ (H : Heap) (locs : List Loc) (ls : Array Slot), Rl B D cA m95 H → va_S (fun q => B ≤ q) s.heap H locs → lv_has ls 8 [(0, .ref (B + x0)), (3, .int x3), (5, .int (v56 - x1))] → W p l e (rmm 2 0 0 45) s mt args below meth c H locs 0 0 (MQ below (mQ B D cA (some (.int rZ)) mZ) args s 0 0 (fun q => B ≤ q)) (F0 mt 225 ls [.int t96, .ref (B + x0)]) := by
                    intro H locs ls hR hS hl
                    refine lv_iload_n hx hb dX8_moves_225 rfl (lv_at hl 1 rfl) ?_
                    obtain ⟨o98, h99, hf⟩ := obO hf
                    obtain ⟨v101, g100, hf⟩ := ob hf
                    refine r_callV X kw_X8_143 (ci := 8) rfl (c_X8_spot l B D cA m95 x0 t96 x3 v101 g100) ⟨Nat.le_of_ble_eq_true rfl, Nat.le_of_ble_eq_true rfl⟩ h99 hR hS hl.1 rfl rfl (Nat.le_of_ble_eq_true rfl) ⟨Nat.le_of_ble_eq_true rfl, Nat.le_of_ble_eq_true rfl⟩ dX8_moves_226 (fun H locs hR hS => ?_)
                    refine W.eq (g2 := F0 mt 229 ls [.int v101]) rfl ?_
                    refine lv_istore (lv' := [(6, .int v101), (0, .ref (B + x0)), (3, .int x3), (5, .int (v56 - x1))]) hx hb dX8_moves_229 hl (by decide) rfl (fun ls hl => ?_)
                    refine lv_aload_n hx hb dX8_moves_231 rfl (lv_at hl 1 rfl) ?_
                    refine lv_iload hx hb dX8_moves_232 (lv_at hl 0 rfl) ?_
                    refine lv_iload hx hb dX8_moves_234 (lv_at hl 3 rfl) ?_
                    obtain ⟨o102, h103, hf⟩ := obO hf
                    obtain ⟨m105, g104, hf⟩ := ob hf
                    refine r_callV X kw_X8_146 (ci := 8) rfl (c_X8_makesRoom l B D cA m95 x0 v101 (v56 - x1) m105 g104) ⟨Nat.le_of_ble_eq_true rfl, Nat.le_of_ble_eq_true rfl⟩ h103 hR hS hl.1 rfl rfl (Nat.le_of_ble_eq_true rfl) ⟨Nat.le_of_ble_eq_true rfl, Nat.le_of_ble_eq_true rfl⟩ dX8_moves_236 (fun H locs hR hS => ?_)
                    refine W.eq (g2 := F0 mt 239 ls []) rfl ?_
                    refine lv_iconst (v := 0) hx hb dX8_moves_239 (by decide) ?_
                    refine lv_istore (lv' := [(7, .int (0 : Int32)), (6, .int v101), (0, .ref (B + x0)), (3, .int x3), (5, .int (v56 - x1))]) hx hb dX8_moves_240 hl (by decide) rfl (fun ls hl => ?_)
                    obtain ⟨e107, hwe107, hf⟩ := ob hf
                    refine whl_rule (P := (fun t106 => ∀ (H : Heap) (locs : List Loc) (ls : Array Slot), Rl B D cA t106.2 H → va_S (fun q => B ≤ q) s.heap H locs → lv_has ls 8 [(0, .ref (B + x0)), (5, .int (v56 - x1)), (6, .int v101), (7, .int t106.1)] → W p l e (rmm 2 0 0 45) s mt args below meth c H locs 0 0 (MQ below (mQ B D cA (some (.int rZ)) mZ) args s 0 0 (fun q => B ≤ q)) (F0 mt 242 ls []))) (Qx := (fun e107 => ∀ (H : Heap) (locs : List Loc) (ls : Array Slot), Rl B D cA e107 H → va_S (fun q => B ≤ q) s.heap H locs → lv_has ls 8 [(0, .ref (B + x0)), (6, .int v101)] → W p l e (rmm 2 0 0 45) s mt args below meth c H locs 0 0 (MQ below (mQ B D cA (some (.int rZ)) mZ) args s 0 0 (fun q => B ≤ q)) (F0 mt 316 ls []))) ?_ FU _ e107 hwe107 ?_ H locs ls hR hS (lv_sub hl [2, 4, 1, 0] rfl)
                    · clear hwe107 hf
                      intro t106 q108 hf hxlq108 hxrq108 H locs ls hR hS hl
                      obtain ⟨z109, m110⟩ := t106
                      have hf : f_X8_moves_L242 m110 x0 (v56 - x1) v101 z109 = some q108 := hf
                      have hR : Rl B D cA m110 H := hR
                      have hl : lv_has ls 8 [(0, .ref (B + x0)), (5, .int (v56 - x1)), (6, .int v101), (7, .int z109)] := hl
                      unfold f_X8_moves_L242 at hf
                      refine lv_iload hx hb dX8_moves_242 (lv_at hl 3 rfl) ?_
                      refine lv_iload hx hb dX8_moves_244 (lv_at hl 1 rfl) ?_
                      refine lv_icmp_ge (tgt := 316) hx hb dX8_moves_246 (by decide) (fun c111 => ?_) (fun c111 => ?_)
                      · rw [if_pos c111] at hf
                        obtain rfl := Option.some.inj hf
                        exact hxrq108 _ rfl H locs ls hR hS (lv_sub hl [0, 2] rfl)
                      · rw [if_neg c111] at hf
                        refine lv_aload_n hx hb dX8_moves_249 rfl (lv_at hl 0 rfl) ?_
                        obtain ⟨v112, g113, hf⟩ := ob hf
                        refine gR_X8_17 X hR g113 dX8_moves_250 ?_
                        refine lv_iload hx hb dX8_moves_253 (lv_at hl 2 rfl) ?_
                        refine lv_iload hx hb dX8_moves_255 (lv_at hl 3 rfl) ?_
                        refine lv_iadd hx hb dX8_moves_257 ?_
                        refine lv_aload_n hx hb dX8_moves_258 rfl (lv_at hl 0 rfl) ?_
                        obtain ⟨v114, g115, hf⟩ := ob hf
                        refine gR_X8_41 X hR g115 dX8_moves_259 ?_
                        refine lv_iconst (v := 3) hx hb dX8_moves_262 (by decide) ?_
                        refine lv_iload hx hb dX8_moves_263 (lv_at hl 3 rfl) ?_
                        refine lv_imul hx hb dX8_moves_265 ?_
                        obtain ⟨v116, g117, hf⟩ := ob hf
                        refine r_lI X hR g117 dX8_moves_266 ?_
                        obtain ⟨m118, g119, hf⟩ := ob hf
                        refine r_sI X hR hS g119 dX8_moves_267 (fun H locs hR hS => ?_)
                        refine lv_aload_n hx hb dX8_moves_268 rfl (lv_at hl 0 rfl) ?_
                        obtain ⟨v120, g121, hf⟩ := ob hf
                        refine gR_X8_20 X hR g121 dX8_moves_269 ?_
                        refine lv_iload hx hb dX8_moves_272 (lv_at hl 2 rfl) ?_
                        refine lv_iload hx hb dX8_moves_274 (lv_at hl 3 rfl) ?_
                        refine lv_iadd hx hb dX8_moves_276 ?_
                        refine lv_aload_n hx hb dX8_moves_277 rfl (lv_at hl 0 rfl) ?_
                        obtain ⟨v122, g123, hf⟩ := ob hf
                        refine gR_X8_41 X hR g123 dX8_moves_278 ?_
                        refine lv_iconst (v := 3) hx hb dX8_moves_281 (by decide) ?_
                        refine lv_iload hx hb dX8_moves_282 (lv_at hl 3 rfl) ?_
                        refine lv_imul hx hb dX8_moves_284 ?_
                        refine lv_iconst (v := 1) hx hb dX8_moves_285 (by decide) ?_
                        refine lv_iadd hx hb dX8_moves_286 ?_
                        obtain ⟨v124, g125, hf⟩ := ob hf
                        refine r_lI X hR g125 dX8_moves_287 ?_
                        obtain ⟨m126, g127, hf⟩ := ob hf
                        refine r_sI X hR hS g127 dX8_moves_288 (fun H locs hR hS => ?_)
                        refine lv_aload_n hx hb dX8_moves_289 rfl (lv_at hl 0 rfl) ?_
                        obtain ⟨v128, g129, hf⟩ := ob hf
                        refine gR_X8_23 X hR g129 dX8_moves_290 ?_
                        refine lv_iload hx hb dX8_moves_293 (lv_at hl 2 rfl) ?_
                        refine lv_iload hx hb dX8_moves_295 (lv_at hl 3 rfl) ?_
                        refine lv_iadd hx hb dX8_moves_297 ?_
                        refine lv_aload_n hx hb dX8_moves_298 rfl (lv_at hl 0 rfl) ?_
                        obtain ⟨v130, g131, hf⟩ := ob hf
                        refine gR_X8_41 X hR g131 dX8_moves_299 ?_
                        refine lv_iconst (v := 3) hx hb dX8_moves_302 (by decide) ?_
                        refine lv_iload hx hb dX8_moves_303 (lv_at hl 3 rfl) ?_
                        refine lv_imul hx hb dX8_moves_305 ?_
                        refine lv_iconst (v := 2) hx hb dX8_moves_306 (by decide) ?_
                        refine lv_iadd hx hb dX8_moves_307 ?_
                        obtain ⟨v132, g133, hf⟩ := ob hf
                        refine r_lI X hR g133 dX8_moves_308 ?_
                        obtain ⟨m134, g135, hf⟩ := ob hf
                        refine r_sI X hR hS g135 dX8_moves_309 (fun H locs hR hS => ?_)
                        refine lv_iinc (v := (z109 + 1)) (lv' := [(7, .int (z109 + 1)), (0, .ref (B + x0)), (5, .int (v56 - x1)), (6, .int v101)]) hx hb dX8_moves_310 hl (k := 3) rfl (congrArg (fun z => z109 + z) (by decide)) (by decide) rfl (fun ls hl => ?_)
                        refine lv_goto (tgt := 242) hx hb dX8_moves_313 (by decide) ?_
                        obtain rfl := Option.some.inj hf
                        exact hxlq108 _ rfl H locs ls hR hS (lv_sub hl [1, 2, 3, 0] rfl)
                    · intro H locs ls hR hS hl
                      refine lv_aload_n hx hb dX8_moves_316 rfl (lv_at hl 0 rfl) ?_
                      obtain ⟨o136, h137, hf⟩ := obO hf
                      obtain ⟨m139, g138, hf⟩ := ob hf
                      refine r_callV X kw_X8_123 (ci := 8) rfl (c_X8_tellsTree l B D cA e107 x0 m139 g138) ⟨Nat.le_of_ble_eq_true rfl, Nat.le_of_ble_eq_true rfl⟩ h137 hR hS hl.1 rfl rfl (Nat.le_of_ble_eq_true rfl) ⟨Nat.le_of_ble_eq_true rfl, Nat.le_of_ble_eq_true rfl⟩ dX8_moves_317 (fun H locs hR hS => ?_)
                      refine W.eq (g2 := F0 mt 320 ls []) rfl ?_
                      refine lv_iload hx hb dX8_moves_320 (lv_at hl 1 rfl) ?_
                      obtain ⟨rfl, rfl⟩ := Prod.mk.inj (Option.some.inj hf)
                      exact r_iret X hr hlocks hR hS rfl dX8_moves_322
                  have hf := hjt96
                  clear hjt96
                  refine lv_icmp_le (tgt := 224) hx hb dX8_moves_214 (by decide) (fun c97 => ?_) (fun c97 => ?_)
                  · rw [if_pos c97] at hf
                    refine lv_iload_n hx hb dX8_moves_224 rfl (lv_at hl 2 rfl) ?_
                    obtain rfl := Option.some.inj hf
                    exact hJt96 H locs ls hR hS (lv_sub hl [0, 3, 4] rfl)
                  · rw [if_neg c97] at hf
                    refine lv_iload_n hx hb dX8_moves_217 rfl (lv_at hl 2 rfl) ?_
                    refine lv_iload hx hb dX8_moves_218 (lv_at hl 4 rfl) ?_
                    refine lv_isub hx hb dX8_moves_220 ?_
                    refine lv_goto (tgt := 225) hx hb dX8_moves_221 (by decide) ?_
                    obtain rfl := Option.some.inj hf
                    exact hJt96 H locs ls hR hS (lv_sub hl [0, 3, 4] rfl)
              · rw [if_neg c49] at hf
                refine lv_aload_n hx hb dX8_moves_104 rfl (lv_at hl 1 rfl) ?_
                obtain ⟨o140, h141, hf⟩ := obO hf
                obtain ⟨t143, g142, hf⟩ := ob hf
                refine r_callV X kw_X8_119 (ci := 8) rfl (c_X8_no l B D cA m x0 t143.1 t143.2 g142) ⟨Nat.le_of_ble_eq_true rfl, Nat.le_of_ble_eq_true rfl⟩ h141 hR hS hl.1 rfl rfl (Nat.le_of_ble_eq_true rfl) ⟨Nat.le_of_ble_eq_true rfl, Nat.le_of_ble_eq_true rfl⟩ dX8_moves_105 (fun H locs hR hS => ?_)
                refine W.eq (g2 := F0 mt 108 ls [.int t143.1]) rfl ?_
                obtain ⟨rfl, rfl⟩ := Prod.mk.inj (Option.some.inj hf)
                exact r_iret X hr hlocks hR hS rfl dX8_moves_108
            refine lv_icmp_lt (tgt := 74) hx hb dX8_moves_56 (by decide) (fun c144 => ?_) (fun c144 => ?_)
            · rw [if_pos c144] at hf
              exact hJ74  H locs ls hf hR hS (lv_sub hl [0, 1, 2, 3] rfl)
            · rw [if_neg c144] at hf
              refine lv_iload_n hx hb dX8_moves_59 rfl (lv_at hl 2 rfl) ?_
              refine lv_aload_n hx hb dX8_moves_60 rfl (lv_at hl 0 rfl) ?_
              obtain ⟨v145, g146, hf⟩ := ob hf
              refine gR_X8_26 X hR g146 dX8_moves_61 ?_
              refine lv_iload_n hx hb dX8_moves_64 rfl (lv_at hl 1 rfl) ?_
              obtain ⟨v147, g148, hf⟩ := ob hf
              refine r_lI X hR g148 dX8_moves_65 ?_
              refine lv_icmp_ge (tgt := 74) hx hb dX8_moves_66 (by decide) (fun c149 => ?_) (fun c149 => ?_)
              · rw [if_pos c149] at hf
                exact hJ74  H locs ls hf hR hS (lv_sub hl [0, 1, 2, 3] rfl)
              · rw [if_neg c149] at hf
                refine lv_aload_n hx hb dX8_moves_69 rfl (lv_at hl 0 rfl) ?_
                obtain ⟨o150, h151, hf⟩ := obO hf
                obtain ⟨t153, g152, hf⟩ := ob hf
                refine r_callV X kw_X8_119 (ci := 8) rfl (c_X8_no l B D cA m x0 t153.1 t153.2 g152) ⟨Nat.le_of_ble_eq_true rfl, Nat.le_of_ble_eq_true rfl⟩ h151 hR hS hl.1 rfl rfl (Nat.le_of_ble_eq_true rfl) ⟨Nat.le_of_ble_eq_true rfl, Nat.le_of_ble_eq_true rfl⟩ dX8_moves_70 (fun H locs hR hS => ?_)
                refine W.eq (g2 := F0 mt 73 ls [.int t153.1]) rfl ?_
                obtain ⟨rfl, rfl⟩ := Prod.mk.inj (Option.some.inj hf)
                exact r_iret X hr hlocks hR hS rfl dX8_moves_73
        · rw [if_pos c31] at hf
          refine lv_aload_n hx hb dX8_moves_45 rfl (lv_at hl 0 rfl) ?_
          obtain ⟨o154, h155, hf⟩ := obO hf
          obtain ⟨t157, g156, hf⟩ := ob hf
          refine r_callV X kw_X8_134 (ci := 8) rfl (c_X8_bad l B D cA m x0 t157.1 t157.2 g156) ⟨Nat.le_of_ble_eq_true rfl, Nat.le_of_ble_eq_true rfl⟩ h155 hR hS hl.1 rfl rfl (Nat.le_of_ble_eq_true rfl) ⟨Nat.le_of_ble_eq_true rfl, Nat.le_of_ble_eq_true rfl⟩ dX8_moves_46 (fun H locs hR hS => ?_)
          refine W.eq (g2 := F0 mt 49 ls [.int t157.1]) rfl ?_
          obtain ⟨rfl, rfl⟩ := Prod.mk.inj (Option.some.inj hf)
          exact r_iret X hr hlocks hR hS rfl dX8_moves_49
      have hf := hjt27
      clear hjt27
      refine lv_icmp_ne (tgt := 37) hx hb dX8_moves_30 (by decide) (fun c28 => ?_) (fun c28 => ?_)
      · rw [if_neg c28] at hf
        refine lv_iconst (v := 0) hx hb dX8_moves_37 (by decide) ?_
        obtain rfl := Option.some.inj hf
        exact hJt27 H locs ls hR hS (lv_sub hl [0, 1, 2, 3] rfl)
      · rw [if_pos c28] at hf
        refine lv_iconst (v := 1) hx hb dX8_moves_33 (by decide) ?_
        refine lv_goto (tgt := 38) hx hb dX8_moves_34 (by decide) ?_
        obtain rfl := Option.some.inj hf
        exact hJt27 H locs ls hR hS (lv_sub hl [0, 1, 2, 3] rfl)
/-! ===== TwigMatchesModel.element(II)I ===== -/
theorem dX8_element_0 : decode cX8_element 0 = .ok (.aload_n 0, 1) := by decide +kernel
theorem dX8_element_1 : decode cX8_element 1 = .ok (.iload_n 1, 1) := by decide +kernel
theorem dX8_element_2 : decode cX8_element 2 = .ok (.invokevirtual 126, 3) := by decide +kernel
theorem dX8_element_5 : decode cX8_element 5 = .ok (.ifCond .eq 13, 3) := by decide +kernel
theorem dX8_element_8 : decode cX8_element 8 = .ok (.iload_n 2, 1) := by decide +kernel
theorem dX8_element_9 : decode cX8_element 9 = .ok (.iconst 0, 1) := by decide +kernel
theorem dX8_element_10 : decode cX8_element 10 = .ok (.bipush 7, 2) := by decide +kernel
theorem dX8_element_12 : decode cX8_element 12 = .ok (.invokestatic 90, 3) := by decide +kernel
theorem dX8_element_15 : decode cX8_element 15 = .ok (.ifCond .ne 8, 3) := by decide +kernel
theorem dX8_element_18 : decode cX8_element 18 = .ok (.aload_n 0, 1) := by decide +kernel
theorem dX8_element_19 : decode cX8_element 19 = .ok (.invokevirtual 134, 3) := by decide +kernel
theorem dX8_element_22 : decode cX8_element 22 = .ok (.ireturn, 1) := by decide +kernel
theorem dX8_element_23 : decode cX8_element 23 = .ok (.iconst 2, 1) := by decide +kernel
theorem dX8_element_24 : decode cX8_element 24 = .ok (.iload_n 1, 1) := by decide +kernel
theorem dX8_element_25 : decode cX8_element 25 = .ok (.imul, 1) := by decide +kernel
theorem dX8_element_26 : decode cX8_element 26 = .ok (.aload_n 0, 1) := by decide +kernel
theorem dX8_element_27 : decode cX8_element 27 = .ok (.getfield 23, 3) := by decide +kernel
theorem dX8_element_30 : decode cX8_element 30 = .ok (.iload_n 1, 1) := by decide +kernel
theorem dX8_element_31 : decode cX8_element 31 = .ok (.iaload, 1) := by decide +kernel
theorem dX8_element_32 : decode cX8_element 32 = .ok (.isub, 1) := by decide +kernel
theorem dX8_element_33 : decode cX8_element 33 = .ok (.iconst 2, 1) := by decide +kernel
theorem dX8_element_34 : decode cX8_element 34 = .ok (.iadd, 1) := by decide +kernel
theorem dX8_element_35 : decode cX8_element 35 = .ok (.istore_n 3, 1) := by decide +kernel
theorem dX8_element_36 : decode cX8_element 36 = .ok (.iload_n 2, 1) := by decide +kernel
theorem dX8_element_37 : decode cX8_element 37 = .ok (.tableswitch 94 0 6 #[43, 50, 57, 64, 66, 81, 88], 43) := by decide +kernel
theorem dX8_element_80 : decode cX8_element 80 = .ok (.aload_n 0, 1) := by decide +kernel
theorem dX8_element_81 : decode cX8_element 81 = .ok (.getfield 17, 3) := by decide +kernel
theorem dX8_element_84 : decode cX8_element 84 = .ok (.iload_n 1, 1) := by decide +kernel
theorem dX8_element_85 : decode cX8_element 85 = .ok (.iaload, 1) := by decide +kernel
theorem dX8_element_86 : decode cX8_element 86 = .ok (.ireturn, 1) := by decide +kernel
theorem dX8_element_87 : decode cX8_element 87 = .ok (.aload_n 0, 1) := by decide +kernel
theorem dX8_element_88 : decode cX8_element 88 = .ok (.getfield 20, 3) := by decide +kernel
theorem dX8_element_91 : decode cX8_element 91 = .ok (.iload_n 1, 1) := by decide +kernel
theorem dX8_element_92 : decode cX8_element 92 = .ok (.iaload, 1) := by decide +kernel
theorem dX8_element_93 : decode cX8_element 93 = .ok (.ireturn, 1) := by decide +kernel
theorem dX8_element_94 : decode cX8_element 94 = .ok (.aload_n 0, 1) := by decide +kernel
theorem dX8_element_95 : decode cX8_element 95 = .ok (.getfield 29, 3) := by decide +kernel
theorem dX8_element_98 : decode cX8_element 98 = .ok (.iload_n 1, 1) := by decide +kernel
theorem dX8_element_99 : decode cX8_element 99 = .ok (.iaload, 1) := by decide +kernel
theorem dX8_element_100 : decode cX8_element 100 = .ok (.ireturn, 1) := by decide +kernel
theorem dX8_element_101 : decode cX8_element 101 = .ok (.iload_n 3, 1) := by decide +kernel
theorem dX8_element_102 : decode cX8_element 102 = .ok (.ireturn, 1) := by decide +kernel
theorem dX8_element_103 : decode cX8_element 103 = .ok (.iload_n 3, 1) := by decide +kernel
theorem dX8_element_104 : decode cX8_element 104 = .ok (.iconst 2, 1) := by decide +kernel
theorem dX8_element_105 : decode cX8_element 105 = .ok (.aload_n 0, 1) := by decide +kernel
theorem dX8_element_106 : decode cX8_element 106 = .ok (.getfield 26, 3) := by decide +kernel
theorem dX8_element_109 : decode cX8_element 109 = .ok (.iload_n 1, 1) := by decide +kernel
theorem dX8_element_110 : decode cX8_element 110 = .ok (.iaload, 1) := by decide +kernel
theorem dX8_element_111 : decode cX8_element 111 = .ok (.iload_n 1, 1) := by decide +kernel
theorem dX8_element_112 : decode cX8_element 112 = .ok (.isub, 1) := by decide +kernel
theorem dX8_element_113 : decode cX8_element 113 = .ok (.imul, 1) := by decide +kernel
theorem dX8_element_114 : decode cX8_element 114 = .ok (.iadd, 1) := by decide +kernel
theorem dX8_element_115 : decode cX8_element 115 = .ok (.iconst 1, 1) := by decide +kernel
theorem dX8_element_116 : decode cX8_element 116 = .ok (.isub, 1) := by decide +kernel
theorem dX8_element_117 : decode cX8_element 117 = .ok (.ireturn, 1) := by decide +kernel
theorem dX8_element_118 : decode cX8_element 118 = .ok (.aload_n 0, 1) := by decide +kernel
theorem dX8_element_119 : decode cX8_element 119 = .ok (.getfield 23, 3) := by decide +kernel
theorem dX8_element_122 : decode cX8_element 122 = .ok (.iload_n 1, 1) := by decide +kernel
theorem dX8_element_123 : decode cX8_element 123 = .ok (.iaload, 1) := by decide +kernel
theorem dX8_element_124 : decode cX8_element 124 = .ok (.ireturn, 1) := by decide +kernel
theorem dX8_element_125 : decode cX8_element 125 = .ok (.aload_n 0, 1) := by decide +kernel
theorem dX8_element_126 : decode cX8_element 126 = .ok (.iload_n 1, 1) := by decide +kernel
theorem dX8_element_127 : decode cX8_element 127 = .ok (.invokevirtual 130, 3) := by decide +kernel
theorem dX8_element_130 : decode cX8_element 130 = .ok (.ireturn, 1) := by decide +kernel
theorem dX8_element_131 : decode cX8_element 131 = .ok (.aload_n 0, 1) := by decide +kernel
theorem dX8_element_132 : decode cX8_element 132 = .ok (.getfield 26, 3) := by decide +kernel
theorem dX8_element_135 : decode cX8_element 135 = .ok (.iload_n 1, 1) := by decide +kernel
theorem dX8_element_136 : decode cX8_element 136 = .ok (.iaload, 1) := by decide +kernel
theorem dX8_element_137 : decode cX8_element 137 = .ok (.iload_n 1, 1) := by decide +kernel
theorem dX8_element_138 : decode cX8_element 138 = .ok (.isub, 1) := by decide +kernel
theorem dX8_element_139 : decode cX8_element 139 = .ok (.iconst 1, 1) := by decide +kernel
theorem dX8_element_140 : decode cX8_element 140 = .ok (.isub, 1) := by decide +kernel
theorem dX8_element_141 : decode cX8_element 141 = .ok (.ireturn, 1) := by decide +kernel
set_option maxHeartbeats 4000000 in
set_option maxRecDepth 100000 in
theorem c_X8_element (l : Launch) (B : Nat) (D : va_G) (cA : Nat → ClassId) (m : Mm) (x0 : Nat) (x1 : Int32) (x2 : Int32) (rZ : Int32) (mZ : Mm) (hf : f_X8_element m x0 x1 x2 = some (rZ, mZ)) : Mt l B D cA yX8_element cX8_element 4 (some .int) 2 43 0 0 [.ref (B + x0), .int x1, .int x2] m (some (.int rZ)) mZ := by
  refine r_start (by decide) (Nat.le_of_ble_eq_true rfl) ?_
  intro p e s mt args below meth c ls H locs X hr hlocks hnm hR hl hS
  have hx := X.1
  have hb := X.2.1
  have hl : lv_has ls 4 [(0, .ref (B + x0)), (1, .int x1), (2, .int x2)] := hl
  unfold f_X8_element at hf
  refine lv_aload_n hx hb dX8_element_0 rfl (lv_at hl 0 rfl) ?_
  refine lv_iload_n hx hb dX8_element_1 rfl (lv_at hl 1 rfl) ?_
  obtain ⟨o1, h2, hf⟩ := obO hf
  obtain ⟨v4, g3, hf⟩ := ob hf
  refine r_callV X kw_X8_126 (ci := 8) rfl (c_X8_isElement l B D cA m x0 x1 v4 g3) ⟨Nat.le_of_ble_eq_true rfl, Nat.le_of_ble_eq_true rfl⟩ h2 hR hS hl.1 rfl rfl (Nat.le_of_ble_eq_true rfl) ⟨Nat.le_of_ble_eq_true rfl, Nat.le_of_ble_eq_true rfl⟩ dX8_element_2 (fun H locs hR hS => ?_)
  refine W.eq (g2 := F0 mt 5 ls [.int v4]) rfl ?_
  refine lv_if_eq (tgt := 18) hx hb dX8_element_5 (by decide) (fun c5 => ?_) (fun c5 => ?_)
  · rw [if_pos c5] at hf
    refine lv_aload_n hx hb dX8_element_18 rfl (lv_at hl 0 rfl) ?_
    obtain ⟨o6, h7, hf⟩ := obO hf
    obtain ⟨t9, g8, hf⟩ := ob hf
    refine r_callV X kw_X8_134 (ci := 8) rfl (c_X8_bad l B D cA m x0 t9.1 t9.2 g8) ⟨Nat.le_of_ble_eq_true rfl, Nat.le_of_ble_eq_true rfl⟩ h7 hR hS hl.1 rfl rfl (Nat.le_of_ble_eq_true rfl) ⟨Nat.le_of_ble_eq_true rfl, Nat.le_of_ble_eq_true rfl⟩ dX8_element_19 (fun H locs hR hS => ?_)
    refine W.eq (g2 := F0 mt 22 ls [.int t9.1]) rfl ?_
    obtain ⟨rfl, rfl⟩ := Prod.mk.inj (Option.some.inj hf)
    exact r_iret X hr hlocks hR hS rfl dX8_element_22
  · rw [if_neg c5] at hf
    refine lv_iload_n hx hb dX8_element_8 rfl (lv_at hl 2 rfl) ?_
    refine lv_iconst (v := 0) hx hb dX8_element_9 (by decide) ?_
    refine lv_bipush (v := 7) hx hb dX8_element_10 (by decide) ?_
    obtain ⟨v11, g10, hf⟩ := ob hf
    refine r_callS X kw_X8_90 (c_X8_in l B D cA m x2 (0 : Int32) (7 : Int32) v11 g10) ⟨Nat.le_of_ble_eq_true rfl, Nat.le_of_ble_eq_true rfl⟩ hR hS hl.1 rfl rfl (Nat.le_of_ble_eq_true rfl) ⟨Nat.le_of_ble_eq_true rfl, Nat.le_of_ble_eq_true rfl⟩ dX8_element_12 (fun H locs hR hS => ?_)
    refine W.eq (g2 := F0 mt 15 ls [.int v11]) rfl ?_
    refine lv_if_ne (tgt := 23) hx hb dX8_element_15 (by decide) (fun c12 => ?_) (fun c12 => ?_)
    · rw [if_neg c12] at hf
      refine lv_iconst (v := 2) hx hb dX8_element_23 (by decide) ?_
      refine lv_iload_n hx hb dX8_element_24 rfl (lv_at hl 1 rfl) ?_
      refine lv_imul hx hb dX8_element_25 ?_
      refine lv_aload_n hx hb dX8_element_26 rfl (lv_at hl 0 rfl) ?_
      obtain ⟨v13, g14, hf⟩ := ob hf
      refine gR_X8_23 X hR g14 dX8_element_27 ?_
      refine lv_iload_n hx hb dX8_element_30 rfl (lv_at hl 1 rfl) ?_
      obtain ⟨v15, g16, hf⟩ := ob hf
      refine r_lI X hR g16 dX8_element_31 ?_
      refine lv_isub hx hb dX8_element_32 ?_
      refine lv_iconst (v := 2) hx hb dX8_element_33 (by decide) ?_
      refine lv_iadd hx hb dX8_element_34 ?_
      refine lv_istore_n (lv' := [(3, .int ((((2 : Int32) * x1) - v15) + (2 : Int32))), (0, .ref (B + x0)), (1, .int x1), (2, .int x2)]) hx hb dX8_element_35 rfl hl (by decide) rfl (fun ls hl => ?_)
      refine lv_iload_n hx hb dX8_element_36 rfl (lv_at hl 3 rfl) ?_
      by_cases c17 : x2 = (0 : Int32)
      · rw [if_pos c17] at hf
        refine lv_tableIn (tgt := 80) (off := 43) hx hb dX8_element_37 (by rw [c17]; decide) (by rw [c17]; decide) (by rw [c17]; rfl) (by decide) ?_
        refine lv_aload_n hx hb dX8_element_80 rfl (lv_at hl 1 rfl) ?_
        obtain ⟨v18, g19, hf⟩ := ob hf
        refine gR_X8_17 X hR g19 dX8_element_81 ?_
        refine lv_iload_n hx hb dX8_element_84 rfl (lv_at hl 2 rfl) ?_
        obtain ⟨v20, g21, hf⟩ := ob hf
        refine r_lI X hR g21 dX8_element_85 ?_
        obtain ⟨rfl, rfl⟩ := Prod.mk.inj (Option.some.inj hf)
        exact r_iret X hr hlocks hR hS rfl dX8_element_86
      rw [if_neg c17] at hf
      by_cases c22 : x2 = (1 : Int32)
      · rw [if_pos c22] at hf
        refine lv_tableIn (tgt := 87) (off := 50) hx hb dX8_element_37 (by rw [c22]; decide) (by rw [c22]; decide) (by rw [c22]; rfl) (by decide) ?_
        refine lv_aload_n hx hb dX8_element_87 rfl (lv_at hl 1 rfl) ?_
        obtain ⟨v23, g24, hf⟩ := ob hf
        refine gR_X8_20 X hR g24 dX8_element_88 ?_
        refine lv_iload_n hx hb dX8_element_91 rfl (lv_at hl 2 rfl) ?_
        obtain ⟨v25, g26, hf⟩ := ob hf
        refine r_lI X hR g26 dX8_element_92 ?_
        obtain ⟨rfl, rfl⟩ := Prod.mk.inj (Option.some.inj hf)
        exact r_iret X hr hlocks hR hS rfl dX8_element_93
      rw [if_neg c22] at hf
      by_cases c27 : x2 = (2 : Int32)
      · rw [if_pos c27] at hf
        refine lv_tableIn (tgt := 94) (off := 57) hx hb dX8_element_37 (by rw [c27]; decide) (by rw [c27]; decide) (by rw [c27]; rfl) (by decide) ?_
        refine lv_aload_n hx hb dX8_element_94 rfl (lv_at hl 1 rfl) ?_
        obtain ⟨v28, g29, hf⟩ := ob hf
        refine gR_X8_29 X hR g29 dX8_element_95 ?_
        refine lv_iload_n hx hb dX8_element_98 rfl (lv_at hl 2 rfl) ?_
        obtain ⟨v30, g31, hf⟩ := ob hf
        refine r_lI X hR g31 dX8_element_99 ?_
        obtain ⟨rfl, rfl⟩ := Prod.mk.inj (Option.some.inj hf)
        exact r_iret X hr hlocks hR hS rfl dX8_element_100
      rw [if_neg c27] at hf
      by_cases c32 : x2 = (3 : Int32)
      · rw [if_pos c32] at hf
        refine lv_tableIn (tgt := 101) (off := 64) hx hb dX8_element_37 (by rw [c32]; decide) (by rw [c32]; decide) (by rw [c32]; rfl) (by decide) ?_
        refine lv_iload_n hx hb dX8_element_101 rfl (lv_at hl 0 rfl) ?_
        obtain ⟨rfl, rfl⟩ := Prod.mk.inj (Option.some.inj hf)
        exact r_iret X hr hlocks hR hS rfl dX8_element_102
      rw [if_neg c32] at hf
      by_cases c33 : x2 = (4 : Int32)
      · rw [if_pos c33] at hf
        refine lv_tableIn (tgt := 103) (off := 66) hx hb dX8_element_37 (by rw [c33]; decide) (by rw [c33]; decide) (by rw [c33]; rfl) (by decide) ?_
        refine lv_iload_n hx hb dX8_element_103 rfl (lv_at hl 0 rfl) ?_
        refine lv_iconst (v := 2) hx hb dX8_element_104 (by decide) ?_
        refine lv_aload_n hx hb dX8_element_105 rfl (lv_at hl 1 rfl) ?_
        obtain ⟨v34, g35, hf⟩ := ob hf
        refine gR_X8_26 X hR g35 dX8_element_106 ?_
        refine lv_iload_n hx hb dX8_element_109 rfl (lv_at hl 2 rfl) ?_
        obtain ⟨v36, g37, hf⟩ := ob hf
        refine r_lI X hR g37 dX8_element_110 ?_
        refine lv_iload_n hx hb dX8_element_111 rfl (lv_at hl 2 rfl) ?_
        refine lv_isub hx hb dX8_element_112 ?_
        refine lv_imul hx hb dX8_element_113 ?_
        refine lv_iadd hx hb dX8_element_114 ?_
        refine lv_iconst (v := 1) hx hb dX8_element_115 (by decide) ?_
        refine lv_isub hx hb dX8_element_116 ?_
        obtain ⟨rfl, rfl⟩ := Prod.mk.inj (Option.some.inj hf)
        exact r_iret X hr hlocks hR hS rfl dX8_element_117
      rw [if_neg c33] at hf
      by_cases c38 : x2 = (5 : Int32)
      · rw [if_pos c38] at hf
        refine lv_tableIn (tgt := 118) (off := 81) hx hb dX8_element_37 (by rw [c38]; decide) (by rw [c38]; decide) (by rw [c38]; rfl) (by decide) ?_
        refine lv_aload_n hx hb dX8_element_118 rfl (lv_at hl 1 rfl) ?_
        obtain ⟨v39, g40, hf⟩ := ob hf
        refine gR_X8_23 X hR g40 dX8_element_119 ?_
        refine lv_iload_n hx hb dX8_element_122 rfl (lv_at hl 2 rfl) ?_
        obtain ⟨v41, g42, hf⟩ := ob hf
        refine r_lI X hR g42 dX8_element_123 ?_
        obtain ⟨rfl, rfl⟩ := Prod.mk.inj (Option.some.inj hf)
        exact r_iret X hr hlocks hR hS rfl dX8_element_124
      rw [if_neg c38] at hf
      by_cases c43 : x2 = (6 : Int32)
      · rw [if_pos c43] at hf
        refine lv_tableIn (tgt := 125) (off := 88) hx hb dX8_element_37 (by rw [c43]; decide) (by rw [c43]; decide) (by rw [c43]; rfl) (by decide) ?_
        refine lv_aload_n hx hb dX8_element_125 rfl (lv_at hl 1 rfl) ?_
        refine lv_iload_n hx hb dX8_element_126 rfl (lv_at hl 2 rfl) ?_
        obtain ⟨o44, h45, hf⟩ := obO hf
        obtain ⟨v47, g46, hf⟩ := ob hf
        refine r_callV X kw_X8_130 (ci := 8) rfl (c_X8_children l B D cA m x0 x1 v47 g46) ⟨Nat.le_of_ble_eq_true rfl, Nat.le_of_ble_eq_true rfl⟩ h45 hR hS hl.1 rfl rfl (Nat.le_of_ble_eq_true rfl) ⟨Nat.le_of_ble_eq_true rfl, Nat.le_of_ble_eq_true rfl⟩ dX8_element_127 (fun H locs hR hS => ?_)
        refine W.eq (g2 := F0 mt 130 ls [.int v47]) rfl ?_
        obtain ⟨rfl, rfl⟩ := Prod.mk.inj (Option.some.inj hf)
        exact r_iret X hr hlocks hR hS rfl dX8_element_130
      rw [if_neg c43] at hf
      refine lv_tableOut (tgt := 131) hx hb dX8_element_37 (by have zc17 := sw_ne (k := 0) c17; have zc22 := sw_ne (k := 1) c22; have zc27 := sw_ne (k := 2) c27; have zc32 := sw_ne (k := 3) c32; have zc33 := sw_ne (k := 4) c33; have zc38 := sw_ne (k := 5) c38; have zc43 := sw_ne (k := 6) c43; omega) (by decide) ?_
      refine lv_aload_n hx hb dX8_element_131 rfl (lv_at hl 1 rfl) ?_
      obtain ⟨v48, g49, hf⟩ := ob hf
      refine gR_X8_26 X hR g49 dX8_element_132 ?_
      refine lv_iload_n hx hb dX8_element_135 rfl (lv_at hl 2 rfl) ?_
      obtain ⟨v50, g51, hf⟩ := ob hf
      refine r_lI X hR g51 dX8_element_136 ?_
      refine lv_iload_n hx hb dX8_element_137 rfl (lv_at hl 2 rfl) ?_
      refine lv_isub hx hb dX8_element_138 ?_
      refine lv_iconst (v := 1) hx hb dX8_element_139 (by decide) ?_
      refine lv_isub hx hb dX8_element_140 ?_
      obtain ⟨rfl, rfl⟩ := Prod.mk.inj (Option.some.inj hf)
      exact r_iret X hr hlocks hR hS rfl dX8_element_141
    · rw [if_pos c12] at hf
      refine lv_aload_n hx hb dX8_element_18 rfl (lv_at hl 0 rfl) ?_
      obtain ⟨o52, h53, hf⟩ := obO hf
      obtain ⟨t55, g54, hf⟩ := ob hf
      refine r_callV X kw_X8_134 (ci := 8) rfl (c_X8_bad l B D cA m x0 t55.1 t55.2 g54) ⟨Nat.le_of_ble_eq_true rfl, Nat.le_of_ble_eq_true rfl⟩ h53 hR hS hl.1 rfl rfl (Nat.le_of_ble_eq_true rfl) ⟨Nat.le_of_ble_eq_true rfl, Nat.le_of_ble_eq_true rfl⟩ dX8_element_19 (fun H locs hR hS => ?_)
      refine W.eq (g2 := F0 mt 22 ls [.int t55.1]) rfl ?_
      obtain ⟨rfl, rfl⟩ := Prod.mk.inj (Option.some.inj hf)
      exact r_iret X hr hlocks hR hS rfl dX8_element_22
/-! ===== TwigMatchesModel.size()I ===== -/
theorem dX8_size_0 : decode cX8_size 0 = .ok (.aload_n 0, 1) := by decide +kernel
theorem dX8_size_1 : decode cX8_size 1 = .ok (.getfield 13, 3) := by decide +kernel
theorem dX8_size_4 : decode cX8_size 4 = .ok (.ireturn, 1) := by decide +kernel
set_option maxHeartbeats 4000000 in
set_option maxRecDepth 100000 in
theorem c_X8_size (l : Launch) (B : Nat) (D : va_G) (cA : Nat → ClassId) (m : Mm) (x0 : Nat) (rZ : Int32) (hf : f_X8_size m x0 = some rZ) : Mt l B D cA yX8_size cX8_size 1 (some .int) 0 0 0 0 [.ref (B + x0)] m (some (.int rZ)) m := by
  refine r_start (by decide) (Nat.le_of_ble_eq_true rfl) ?_
  intro p e s mt args below meth c ls H locs X hr hlocks hnm hR hl hS
  have hx := X.1
  have hb := X.2.1
  have hl : lv_has ls 1 [(0, .ref (B + x0))] := hl
  unfold f_X8_size at hf
  refine lv_aload_n hx hb dX8_size_0 rfl (lv_at hl 0 rfl) ?_
  obtain ⟨v1, g2, hf⟩ := ob hf
  refine gI_X8_13 X hR g2 dX8_size_1 ?_
  obtain rfl := Option.some.inj hf
  exact r_iret X hr hlocks hR hS rfl dX8_size_4
/-! ===== TwigMatchesModel.nodeIs(III)I ===== -/
theorem dX8_nodeIs_0 : decode cX8_nodeIs 0 = .ok (.iload_n 3, 1) := by decide +kernel
theorem dX8_nodeIs_1 : decode cX8_nodeIs 1 = .ok (.tableswitch 64 0 3 #[31, 38, 45, 52], 31) := by decide +kernel
theorem dX8_nodeIs_32 : decode cX8_nodeIs 32 = .ok (.aload_n 0, 1) := by decide +kernel
theorem dX8_nodeIs_33 : decode cX8_nodeIs 33 = .ok (.iload_n 1, 1) := by decide +kernel
theorem dX8_nodeIs_34 : decode cX8_nodeIs 34 = .ok (.iload_n 2, 1) := by decide +kernel
theorem dX8_nodeIs_35 : decode cX8_nodeIs 35 = .ok (.invokevirtual 105, 3) := by decide +kernel
theorem dX8_nodeIs_38 : decode cX8_nodeIs 38 = .ok (.ireturn, 1) := by decide +kernel
theorem dX8_nodeIs_39 : decode cX8_nodeIs 39 = .ok (.aload_n 0, 1) := by decide +kernel
theorem dX8_nodeIs_40 : decode cX8_nodeIs 40 = .ok (.iload_n 1, 1) := by decide +kernel
theorem dX8_nodeIs_41 : decode cX8_nodeIs 41 = .ok (.iload_n 2, 1) := by decide +kernel
theorem dX8_nodeIs_42 : decode cX8_nodeIs 42 = .ok (.invokevirtual 155, 3) := by decide +kernel
theorem dX8_nodeIs_45 : decode cX8_nodeIs 45 = .ok (.ireturn, 1) := by decide +kernel
theorem dX8_nodeIs_46 : decode cX8_nodeIs 46 = .ok (.aload_n 0, 1) := by decide +kernel
theorem dX8_nodeIs_47 : decode cX8_nodeIs 47 = .ok (.iload_n 1, 1) := by decide +kernel
theorem dX8_nodeIs_48 : decode cX8_nodeIs 48 = .ok (.iload_n 2, 1) := by decide +kernel
theorem dX8_nodeIs_49 : decode cX8_nodeIs 49 = .ok (.invokevirtual 158, 3) := by decide +kernel
theorem dX8_nodeIs_52 : decode cX8_nodeIs 52 = .ok (.ireturn, 1) := by decide +kernel
theorem dX8_nodeIs_53 : decode cX8_nodeIs 53 = .ok (.aload_n 0, 1) := by decide +kernel
theorem dX8_nodeIs_54 : decode cX8_nodeIs 54 = .ok (.getfield 35, 3) := by decide +kernel
theorem dX8_nodeIs_57 : decode cX8_nodeIs 57 = .ok (.iload_n 1, 1) := by decide +kernel
theorem dX8_nodeIs_58 : decode cX8_nodeIs 58 = .ok (.iload_n 2, 1) := by decide +kernel
theorem dX8_nodeIs_59 : decode cX8_nodeIs 59 = .ok (.iconst 4, 1) := by decide +kernel
theorem dX8_nodeIs_60 : decode cX8_nodeIs 60 = .ok (.invokestatic 98, 3) := by decide +kernel
theorem dX8_nodeIs_63 : decode cX8_nodeIs 63 = .ok (.iaload, 1) := by decide +kernel
theorem dX8_nodeIs_64 : decode cX8_nodeIs 64 = .ok (.ireturn, 1) := by decide +kernel
theorem dX8_nodeIs_65 : decode cX8_nodeIs 65 = .ok (.aload_n 0, 1) := by decide +kernel
theorem dX8_nodeIs_66 : decode cX8_nodeIs 66 = .ok (.iload_n 1, 1) := by decide +kernel
theorem dX8_nodeIs_67 : decode cX8_nodeIs 67 = .ok (.iload_n 2, 1) := by decide +kernel
theorem dX8_nodeIs_68 : decode cX8_nodeIs 68 = .ok (.invokevirtual 113, 3) := by decide +kernel
theorem dX8_nodeIs_71 : decode cX8_nodeIs 71 = .ok (.ireturn, 1) := by decide +kernel
set_option maxHeartbeats 4000000 in
set_option maxRecDepth 100000 in
theorem c_X8_nodeIs (l : Launch) (B : Nat) (D : va_G) (cA : Nat → ClassId) (m : Mm) (x0 : Nat) (x1 : Int32) (x2 : Int32) (x3 : Int32) (rZ : Int32) (hf : f_X8_nodeIs m x0 x1 x2 x3 = some rZ) : Mt l B D cA yX8_nodeIs cX8_nodeIs 4 (some .int) 3 71 0 0 [.ref (B + x0), .int x1, .int x2, .int x3] m (some (.int rZ)) m := by
  refine r_start (by decide) (Nat.le_of_ble_eq_true rfl) ?_
  intro p e s mt args below meth c ls H locs X hr hlocks hnm hR hl hS
  have hx := X.1
  have hb := X.2.1
  have hl : lv_has ls 4 [(0, .ref (B + x0)), (1, .int x1), (2, .int x2), (3, .int x3)] := hl
  unfold f_X8_nodeIs at hf
  refine lv_iload_n hx hb dX8_nodeIs_0 rfl (lv_at hl 3 rfl) ?_
  by_cases c1 : x3 = (0 : Int32)
  · rw [if_pos c1] at hf
    refine lv_tableIn (tgt := 32) (off := 31) hx hb dX8_nodeIs_1 (by rw [c1]; decide) (by rw [c1]; decide) (by rw [c1]; rfl) (by decide) ?_
    refine lv_aload_n hx hb dX8_nodeIs_32 rfl (lv_at hl 0 rfl) ?_
    refine lv_iload_n hx hb dX8_nodeIs_33 rfl (lv_at hl 1 rfl) ?_
    refine lv_iload_n hx hb dX8_nodeIs_34 rfl (lv_at hl 2 rfl) ?_
    obtain ⟨o2, h3, hf⟩ := obO hf
    obtain ⟨v5, g4, hf⟩ := ob hf
    refine r_callV X kw_X8_105 (ci := 8) rfl (c_X8_tagOf l B D cA m x0 x1 x2 v5 g4) ⟨Nat.le_of_ble_eq_true rfl, Nat.le_of_ble_eq_true rfl⟩ h3 hR hS hl.1 rfl rfl (Nat.le_of_ble_eq_true rfl) ⟨Nat.le_of_ble_eq_true rfl, Nat.le_of_ble_eq_true rfl⟩ dX8_nodeIs_35 (fun H locs hR hS => ?_)
    refine W.eq (g2 := F0 mt 38 ls [.int v5]) rfl ?_
    obtain rfl := Option.some.inj hf
    exact r_iret X hr hlocks hR hS rfl dX8_nodeIs_38
  rw [if_neg c1] at hf
  by_cases c6 : x3 = (1 : Int32)
  · rw [if_pos c6] at hf
    refine lv_tableIn (tgt := 39) (off := 38) hx hb dX8_nodeIs_1 (by rw [c6]; decide) (by rw [c6]; decide) (by rw [c6]; rfl) (by decide) ?_
    refine lv_aload_n hx hb dX8_nodeIs_39 rfl (lv_at hl 0 rfl) ?_
    refine lv_iload_n hx hb dX8_nodeIs_40 rfl (lv_at hl 1 rfl) ?_
    refine lv_iload_n hx hb dX8_nodeIs_41 rfl (lv_at hl 2 rfl) ?_
    obtain ⟨o7, h8, hf⟩ := obO hf
    obtain ⟨v10, g9, hf⟩ := ob hf
    refine r_callV X kw_X8_155 (ci := 8) rfl (c_X8_passing l B D cA m x0 x1 x2 v10 g9) ⟨Nat.le_of_ble_eq_true rfl, Nat.le_of_ble_eq_true rfl⟩ h8 hR hS hl.1 rfl rfl (Nat.le_of_ble_eq_true rfl) ⟨Nat.le_of_ble_eq_true rfl, Nat.le_of_ble_eq_true rfl⟩ dX8_nodeIs_42 (fun H locs hR hS => ?_)
    refine W.eq (g2 := F0 mt 45 ls [.int v10]) rfl ?_
    obtain rfl := Option.some.inj hf
    exact r_iret X hr hlocks hR hS rfl dX8_nodeIs_45
  rw [if_neg c6] at hf
  by_cases c11 : x3 = (2 : Int32)
  · rw [if_pos c11] at hf
    refine lv_tableIn (tgt := 46) (off := 45) hx hb dX8_nodeIs_1 (by rw [c11]; decide) (by rw [c11]; decide) (by rw [c11]; rfl) (by decide) ?_
    refine lv_aload_n hx hb dX8_nodeIs_46 rfl (lv_at hl 0 rfl) ?_
    refine lv_iload_n hx hb dX8_nodeIs_47 rfl (lv_at hl 1 rfl) ?_
    refine lv_iload_n hx hb dX8_nodeIs_48 rfl (lv_at hl 2 rfl) ?_
    obtain ⟨o12, h13, hf⟩ := obO hf
    obtain ⟨v15, g14, hf⟩ := ob hf
    refine r_callV X kw_X8_158 (ci := 8) rfl (c_X8_jointOf l B D cA m x0 x1 x2 v15 g14) ⟨Nat.le_of_ble_eq_true rfl, Nat.le_of_ble_eq_true rfl⟩ h13 hR hS hl.1 rfl rfl (Nat.le_of_ble_eq_true rfl) ⟨Nat.le_of_ble_eq_true rfl, Nat.le_of_ble_eq_true rfl⟩ dX8_nodeIs_49 (fun H locs hR hS => ?_)
    refine W.eq (g2 := F0 mt 52 ls [.int v15]) rfl ?_
    obtain rfl := Option.some.inj hf
    exact r_iret X hr hlocks hR hS rfl dX8_nodeIs_52
  rw [if_neg c11] at hf
  by_cases c16 : x3 = (3 : Int32)
  · rw [if_pos c16] at hf
    refine lv_tableIn (tgt := 53) (off := 52) hx hb dX8_nodeIs_1 (by rw [c16]; decide) (by rw [c16]; decide) (by rw [c16]; rfl) (by decide) ?_
    refine lv_aload_n hx hb dX8_nodeIs_53 rfl (lv_at hl 0 rfl) ?_
    obtain ⟨v17, g18, hf⟩ := ob hf
    refine gR_X8_35 X hR g18 dX8_nodeIs_54 ?_
    refine lv_iload_n hx hb dX8_nodeIs_57 rfl (lv_at hl 1 rfl) ?_
    refine lv_iload_n hx hb dX8_nodeIs_58 rfl (lv_at hl 2 rfl) ?_
    refine lv_iconst (v := 4) hx hb dX8_nodeIs_59 (by decide) ?_
    obtain ⟨v20, g19, hf⟩ := ob hf
    refine r_callS X kw_X8_98 (c_X8_cell l B D cA m x1 x2 (4 : Int32) v20 g19) ⟨Nat.le_of_ble_eq_true rfl, Nat.le_of_ble_eq_true rfl⟩ hR hS hl.1 rfl rfl (Nat.le_of_ble_eq_true rfl) ⟨Nat.le_of_ble_eq_true rfl, Nat.le_of_ble_eq_true rfl⟩ dX8_nodeIs_60 (fun H locs hR hS => ?_)
    refine W.eq (g2 := F0 mt 63 ls [.int v20, .ref (B + v17)]) rfl ?_
    obtain ⟨v21, g22, hf⟩ := ob hf
    refine r_lI X hR g22 dX8_nodeIs_63 ?_
    obtain rfl := Option.some.inj hf
    exact r_iret X hr hlocks hR hS rfl dX8_nodeIs_64
  rw [if_neg c16] at hf
  refine lv_tableOut (tgt := 65) hx hb dX8_nodeIs_1 (by have zc1 := sw_ne (k := 0) c1; have zc6 := sw_ne (k := 1) c6; have zc11 := sw_ne (k := 2) c11; have zc16 := sw_ne (k := 3) c16; omega) (by decide) ?_
  refine lv_aload_n hx hb dX8_nodeIs_65 rfl (lv_at hl 0 rfl) ?_
  refine lv_iload_n hx hb dX8_nodeIs_66 rfl (lv_at hl 1 rfl) ?_
  refine lv_iload_n hx hb dX8_nodeIs_67 rfl (lv_at hl 2 rfl) ?_
  obtain ⟨o23, h24, hf⟩ := obO hf
  obtain ⟨v26, g25, hf⟩ := ob hf
  refine r_callV X kw_X8_113 (ci := 8) rfl (c_X8_ofNode l B D cA m x0 x1 x2 v26 g25) ⟨Nat.le_of_ble_eq_true rfl, Nat.le_of_ble_eq_true rfl⟩ h24 hR hS hl.1 rfl rfl (Nat.le_of_ble_eq_true rfl) ⟨Nat.le_of_ble_eq_true rfl, Nat.le_of_ble_eq_true rfl⟩ dX8_nodeIs_68 (fun H locs hR hS => ?_)
  refine W.eq (g2 := F0 mt 71 ls [.int v26]) rfl ?_
  obtain rfl := Option.some.inj hf
  exact r_iret X hr hlocks hR hS rfl dX8_nodeIs_71
/-! ===== TwigMatchesModel.node(III)I ===== -/
theorem dX8_node_0 : decode cX8_node 0 = .ok (.iload_n 1, 1) := by decide +kernel
theorem dX8_node_1 : decode cX8_node 1 = .ok (.invokestatic 161, 3) := by decide +kernel
theorem dX8_node_4 : decode cX8_node 4 = .ok (.ifCond .eq 16, 3) := by decide +kernel
theorem dX8_node_7 : decode cX8_node 7 = .ok (.iload_n 2, 1) := by decide +kernel
theorem dX8_node_8 : decode cX8_node 8 = .ok (.ifCond .lt 12, 3) := by decide +kernel
theorem dX8_node_11 : decode cX8_node 11 = .ok (.iload_n 3, 1) := by decide +kernel
theorem dX8_node_12 : decode cX8_node 12 = .ok (.iconst 0, 1) := by decide +kernel
theorem dX8_node_13 : decode cX8_node 13 = .ok (.iconst 4, 1) := by decide +kernel
theorem dX8_node_14 : decode cX8_node 14 = .ok (.invokestatic 90, 3) := by decide +kernel
theorem dX8_node_17 : decode cX8_node 17 = .ok (.ifCond .ne 8, 3) := by decide +kernel
theorem dX8_node_20 : decode cX8_node 20 = .ok (.aload_n 0, 1) := by decide +kernel
theorem dX8_node_21 : decode cX8_node 21 = .ok (.invokevirtual 134, 3) := by decide +kernel
theorem dX8_node_24 : decode cX8_node 24 = .ok (.ireturn, 1) := by decide +kernel
theorem dX8_node_25 : decode cX8_node 25 = .ok (.iload_n 2, 1) := by decide +kernel
theorem dX8_node_26 : decode cX8_node 26 = .ok (.aload_n 0, 1) := by decide +kernel
theorem dX8_node_27 : decode cX8_node 27 = .ok (.getfield 32, 3) := by decide +kernel
theorem dX8_node_30 : decode cX8_node 30 = .ok (.iload_n 1, 1) := by decide +kernel
theorem dX8_node_31 : decode cX8_node 31 = .ok (.iaload, 1) := by decide +kernel
theorem dX8_node_32 : decode cX8_node 32 = .ok (.if_icmp .ge 13, 3) := by decide +kernel
theorem dX8_node_35 : decode cX8_node 35 = .ok (.aload_n 0, 1) := by decide +kernel
theorem dX8_node_36 : decode cX8_node 36 = .ok (.iload_n 1, 1) := by decide +kernel
theorem dX8_node_37 : decode cX8_node 37 = .ok (.iload_n 2, 1) := by decide +kernel
theorem dX8_node_38 : decode cX8_node 38 = .ok (.iload_n 3, 1) := by decide +kernel
theorem dX8_node_39 : decode cX8_node 39 = .ok (.invokevirtual 164, 3) := by decide +kernel
theorem dX8_node_42 : decode cX8_node 42 = .ok (.goto 7, 3) := by decide +kernel
theorem dX8_node_45 : decode cX8_node 45 = .ok (.aload_n 0, 1) := by decide +kernel
theorem dX8_node_46 : decode cX8_node 46 = .ok (.invokevirtual 119, 3) := by decide +kernel
theorem dX8_node_49 : decode cX8_node 49 = .ok (.ireturn, 1) := by decide +kernel
set_option maxHeartbeats 4000000 in
set_option maxRecDepth 100000 in
theorem c_X8_node (l : Launch) (B : Nat) (D : va_G) (cA : Nat → ClassId) (m : Mm) (x0 : Nat) (x1 : Int32) (x2 : Int32) (x3 : Int32) (rZ : Int32) (mZ : Mm) (hf : f_X8_node m x0 x1 x2 x3 = some (rZ, mZ)) : Mt l B D cA yX8_node cX8_node 4 (some .int) 4 94 0 0 [.ref (B + x0), .int x1, .int x2, .int x3] m (some (.int rZ)) mZ := by
  refine r_start (by decide) (Nat.le_of_ble_eq_true rfl) ?_
  intro p e s mt args below meth c ls H locs X hr hlocks hnm hR hl hS
  have hx := X.1
  have hb := X.2.1
  have hl : lv_has ls 4 [(0, .ref (B + x0)), (1, .int x1), (2, .int x2), (3, .int x3)] := hl
  unfold f_X8_node at hf
  refine lv_iload_n hx hb dX8_node_0 rfl (lv_at hl 1 rfl) ?_
  obtain ⟨v2, g1, hf⟩ := ob hf
  refine r_callS X kw_X8_161 (c_X8_isTwig l B D cA m x1 v2 g1) ⟨Nat.le_of_ble_eq_true rfl, Nat.le_of_ble_eq_true rfl⟩ hR hS hl.1 rfl rfl (Nat.le_of_ble_eq_true rfl) ⟨Nat.le_of_ble_eq_true rfl, Nat.le_of_ble_eq_true rfl⟩ dX8_node_1 (fun H locs hR hS => ?_)
  refine W.eq (g2 := F0 mt 4 ls [.int v2]) rfl ?_
  refine lv_if_eq (tgt := 20) hx hb dX8_node_4 (by decide) (fun c3 => ?_) (fun c3 => ?_)
  · rw [if_pos c3] at hf
    refine lv_aload_n hx hb dX8_node_20 rfl (lv_at hl 0 rfl) ?_
    obtain ⟨o4, h5, hf⟩ := obO hf
    obtain ⟨t7, g6, hf⟩ := ob hf
    refine r_callV X kw_X8_134 (ci := 8) rfl (c_X8_bad l B D cA m x0 t7.1 t7.2 g6) ⟨Nat.le_of_ble_eq_true rfl, Nat.le_of_ble_eq_true rfl⟩ h5 hR hS hl.1 rfl rfl (Nat.le_of_ble_eq_true rfl) ⟨Nat.le_of_ble_eq_true rfl, Nat.le_of_ble_eq_true rfl⟩ dX8_node_21 (fun H locs hR hS => ?_)
    refine W.eq (g2 := F0 mt 24 ls [.int t7.1]) rfl ?_
    obtain ⟨rfl, rfl⟩ := Prod.mk.inj (Option.some.inj hf)
    exact r_iret X hr hlocks hR hS rfl dX8_node_24
  · rw [if_neg c3] at hf
    refine lv_iload_n hx hb dX8_node_7 rfl (lv_at hl 2 rfl) ?_
    refine lv_if_lt (tgt := 20) hx hb dX8_node_8 (by decide) (fun c8 => ?_) (fun c8 => ?_)
    · rw [if_pos c8] at hf
      refine lv_aload_n hx hb dX8_node_20 rfl (lv_at hl 0 rfl) ?_
      obtain ⟨o9, h10, hf⟩ := obO hf
      obtain ⟨t12, g11, hf⟩ := ob hf
      refine r_callV X kw_X8_134 (ci := 8) rfl (c_X8_bad l B D cA m x0 t12.1 t12.2 g11) ⟨Nat.le_of_ble_eq_true rfl, Nat.le_of_ble_eq_true rfl⟩ h10 hR hS hl.1 rfl rfl (Nat.le_of_ble_eq_true rfl) ⟨Nat.le_of_ble_eq_true rfl, Nat.le_of_ble_eq_true rfl⟩ dX8_node_21 (fun H locs hR hS => ?_)
      refine W.eq (g2 := F0 mt 24 ls [.int t12.1]) rfl ?_
      obtain ⟨rfl, rfl⟩ := Prod.mk.inj (Option.some.inj hf)
      exact r_iret X hr hlocks hR hS rfl dX8_node_24
    · rw [if_neg c8] at hf
      refine lv_iload_n hx hb dX8_node_11 rfl (lv_at hl 3 rfl) ?_
      refine lv_iconst (v := 0) hx hb dX8_node_12 (by decide) ?_
      refine lv_iconst (v := 4) hx hb dX8_node_13 (by decide) ?_
      obtain ⟨v14, g13, hf⟩ := ob hf
      refine r_callS X kw_X8_90 (c_X8_in l B D cA m x3 (0 : Int32) (4 : Int32) v14 g13) ⟨Nat.le_of_ble_eq_true rfl, Nat.le_of_ble_eq_true rfl⟩ hR hS hl.1 rfl rfl (Nat.le_of_ble_eq_true rfl) ⟨Nat.le_of_ble_eq_true rfl, Nat.le_of_ble_eq_true rfl⟩ dX8_node_14 (fun H locs hR hS => ?_)
      refine W.eq (g2 := F0 mt 17 ls [.int v14]) rfl ?_
      refine lv_if_ne (tgt := 25) hx hb dX8_node_17 (by decide) (fun c15 => ?_) (fun c15 => ?_)
      · rw [if_neg c15] at hf
        refine lv_iload_n hx hb dX8_node_25 rfl (lv_at hl 2 rfl) ?_
        refine lv_aload_n hx hb dX8_node_26 rfl (lv_at hl 0 rfl) ?_
        obtain ⟨v16, g17, hf⟩ := ob hf
        refine gR_X8_32 X hR g17 dX8_node_27 ?_
        refine lv_iload_n hx hb dX8_node_30 rfl (lv_at hl 1 rfl) ?_
        obtain ⟨v18, g19, hf⟩ := ob hf
        refine r_lI X hR g19 dX8_node_31 ?_
        refine lv_icmp_ge (tgt := 45) hx hb dX8_node_32 (by decide) (fun c20 => ?_) (fun c20 => ?_)
        · rw [if_pos c20] at hf
          refine lv_aload_n hx hb dX8_node_45 rfl (lv_at hl 0 rfl) ?_
          obtain ⟨o21, h22, hf⟩ := obO hf
          obtain ⟨t24, g23, hf⟩ := ob hf
          refine r_callV X kw_X8_119 (ci := 8) rfl (c_X8_no l B D cA m x0 t24.1 t24.2 g23) ⟨Nat.le_of_ble_eq_true rfl, Nat.le_of_ble_eq_true rfl⟩ h22 hR hS hl.1 rfl rfl (Nat.le_of_ble_eq_true rfl) ⟨Nat.le_of_ble_eq_true rfl, Nat.le_of_ble_eq_true rfl⟩ dX8_node_46 (fun H locs hR hS => ?_)
          refine W.eq (g2 := F0 mt 49 ls [.int t24.1]) rfl ?_
          obtain ⟨rfl, rfl⟩ := Prod.mk.inj (Option.some.inj hf)
          exact r_iret X hr hlocks hR hS rfl dX8_node_49
        · rw [if_neg c20] at hf
          refine lv_aload_n hx hb dX8_node_35 rfl (lv_at hl 0 rfl) ?_
          refine lv_iload_n hx hb dX8_node_36 rfl (lv_at hl 1 rfl) ?_
          refine lv_iload_n hx hb dX8_node_37 rfl (lv_at hl 2 rfl) ?_
          refine lv_iload_n hx hb dX8_node_38 rfl (lv_at hl 3 rfl) ?_
          obtain ⟨o25, h26, hf⟩ := obO hf
          obtain ⟨v28, g27, hf⟩ := ob hf
          refine r_callV X kw_X8_164 (ci := 8) rfl (c_X8_nodeIs l B D cA m x0 x1 x2 x3 v28 g27) ⟨Nat.le_of_ble_eq_true rfl, Nat.le_of_ble_eq_true rfl⟩ h26 hR hS hl.1 rfl rfl (Nat.le_of_ble_eq_true rfl) ⟨Nat.le_of_ble_eq_true rfl, Nat.le_of_ble_eq_true rfl⟩ dX8_node_39 (fun H locs hR hS => ?_)
          refine W.eq (g2 := F0 mt 42 ls [.int v28]) rfl ?_
          refine lv_goto (tgt := 49) hx hb dX8_node_42 (by decide) ?_
          obtain ⟨rfl, rfl⟩ := Prod.mk.inj (Option.some.inj hf)
          exact r_iret X hr hlocks hR hS rfl dX8_node_49
      · rw [if_pos c15] at hf
        refine lv_aload_n hx hb dX8_node_20 rfl (lv_at hl 0 rfl) ?_
        obtain ⟨o29, h30, hf⟩ := obO hf
        obtain ⟨t32, g31, hf⟩ := ob hf
        refine r_callV X kw_X8_134 (ci := 8) rfl (c_X8_bad l B D cA m x0 t32.1 t32.2 g31) ⟨Nat.le_of_ble_eq_true rfl, Nat.le_of_ble_eq_true rfl⟩ h30 hR hS hl.1 rfl rfl (Nat.le_of_ble_eq_true rfl) ⟨Nat.le_of_ble_eq_true rfl, Nat.le_of_ble_eq_true rfl⟩ dX8_node_21 (fun H locs hR hS => ?_)
        refine W.eq (g2 := F0 mt 24 ls [.int t32.1]) rfl ?_
        obtain ⟨rfl, rfl⟩ := Prod.mk.inj (Option.some.inj hf)
        exact r_iret X hr hlocks hR hS rfl dX8_node_24
/-! ===== TwigMatchesModel.forgets(I)I ===== -/
theorem dX8_forgets_0 : decode cX8_forgets 0 = .ok (.iload_n 1, 1) := by decide +kernel
theorem dX8_forgets_1 : decode cX8_forgets 1 = .ok (.invokestatic 161, 3) := by decide +kernel
theorem dX8_forgets_4 : decode cX8_forgets 4 = .ok (.ifCond .ne 8, 3) := by decide +kernel
theorem dX8_forgets_7 : decode cX8_forgets 7 = .ok (.aload_n 0, 1) := by decide +kernel
theorem dX8_forgets_8 : decode cX8_forgets 8 = .ok (.invokevirtual 134, 3) := by decide +kernel
theorem dX8_forgets_11 : decode cX8_forgets 11 = .ok (.ireturn, 1) := by decide +kernel
theorem dX8_forgets_12 : decode cX8_forgets 12 = .ok (.aload_n 0, 1) := by decide +kernel
theorem dX8_forgets_13 : decode cX8_forgets 13 = .ok (.getfield 32, 3) := by decide +kernel
theorem dX8_forgets_16 : decode cX8_forgets 16 = .ok (.iload_n 1, 1) := by decide +kernel
theorem dX8_forgets_17 : decode cX8_forgets 17 = .ok (.iaload, 1) := by decide +kernel
theorem dX8_forgets_18 : decode cX8_forgets 18 = .ok (.ifCond .ne 8, 3) := by decide +kernel
theorem dX8_forgets_21 : decode cX8_forgets 21 = .ok (.aload_n 0, 1) := by decide +kernel
theorem dX8_forgets_22 : decode cX8_forgets 22 = .ok (.invokevirtual 119, 3) := by decide +kernel
theorem dX8_forgets_25 : decode cX8_forgets 25 = .ok (.ireturn, 1) := by decide +kernel
theorem dX8_forgets_26 : decode cX8_forgets 26 = .ok (.aload_n 0, 1) := by decide +kernel
theorem dX8_forgets_27 : decode cX8_forgets 27 = .ok (.invokevirtual 140, 3) := by decide +kernel
theorem dX8_forgets_30 : decode cX8_forgets 30 = .ok (.aload_n 0, 1) := by decide +kernel
theorem dX8_forgets_31 : decode cX8_forgets 31 = .ok (.getfield 32, 3) := by decide +kernel
theorem dX8_forgets_34 : decode cX8_forgets 34 = .ok (.iload_n 1, 1) := by decide +kernel
theorem dX8_forgets_35 : decode cX8_forgets 35 = .ok (.iaload, 1) := by decide +kernel
theorem dX8_forgets_36 : decode cX8_forgets 36 = .ok (.istore_n 2, 1) := by decide +kernel
theorem dX8_forgets_37 : decode cX8_forgets 37 = .ok (.aload_n 0, 1) := by decide +kernel
theorem dX8_forgets_38 : decode cX8_forgets 38 = .ok (.getfield 32, 3) := by decide +kernel
theorem dX8_forgets_41 : decode cX8_forgets 41 = .ok (.iload_n 1, 1) := by decide +kernel
theorem dX8_forgets_42 : decode cX8_forgets 42 = .ok (.iconst 0, 1) := by decide +kernel
theorem dX8_forgets_43 : decode cX8_forgets 43 = .ok (.iastore, 1) := by decide +kernel
theorem dX8_forgets_44 : decode cX8_forgets 44 = .ok (.iload_n 2, 1) := by decide +kernel
theorem dX8_forgets_45 : decode cX8_forgets 45 = .ok (.ireturn, 1) := by decide +kernel
set_option maxHeartbeats 4000000 in
set_option maxRecDepth 100000 in
theorem c_X8_forgets (l : Launch) (B : Nat) (D : va_G) (cA : Nat → ClassId) (m : Mm) (x0 : Nat) (x1 : Int32) (rZ : Int32) (mZ : Mm) (hf : f_X8_forgets m x0 x1 = some (rZ, mZ)) : Mt l B D cA yX8_forgets cX8_forgets 3 (some .int) 2 42 0 0 [.ref (B + x0), .int x1] m (some (.int rZ)) mZ := by
  refine r_start (by decide) (Nat.le_of_ble_eq_true rfl) ?_
  intro p e s mt args below meth c ls H locs X hr hlocks hnm hR hl hS
  have hx := X.1
  have hb := X.2.1
  have hl : lv_has ls 3 [(0, .ref (B + x0)), (1, .int x1)] := hl
  unfold f_X8_forgets at hf
  refine lv_iload_n hx hb dX8_forgets_0 rfl (lv_at hl 1 rfl) ?_
  obtain ⟨v2, g1, hf⟩ := ob hf
  refine r_callS X kw_X8_161 (c_X8_isTwig l B D cA m x1 v2 g1) ⟨Nat.le_of_ble_eq_true rfl, Nat.le_of_ble_eq_true rfl⟩ hR hS hl.1 rfl rfl (Nat.le_of_ble_eq_true rfl) ⟨Nat.le_of_ble_eq_true rfl, Nat.le_of_ble_eq_true rfl⟩ dX8_forgets_1 (fun H locs hR hS => ?_)
  refine W.eq (g2 := F0 mt 4 ls [.int v2]) rfl ?_
  refine lv_if_ne (tgt := 12) hx hb dX8_forgets_4 (by decide) (fun c3 => ?_) (fun c3 => ?_)
  · rw [if_neg c3] at hf
    refine lv_aload_n hx hb dX8_forgets_12 rfl (lv_at hl 0 rfl) ?_
    obtain ⟨v4, g5, hf⟩ := ob hf
    refine gR_X8_32 X hR g5 dX8_forgets_13 ?_
    refine lv_iload_n hx hb dX8_forgets_16 rfl (lv_at hl 1 rfl) ?_
    obtain ⟨v6, g7, hf⟩ := ob hf
    refine r_lI X hR g7 dX8_forgets_17 ?_
    refine lv_if_ne (tgt := 26) hx hb dX8_forgets_18 (by decide) (fun c8 => ?_) (fun c8 => ?_)
    · rw [if_neg c8] at hf
      refine lv_aload_n hx hb dX8_forgets_26 rfl (lv_at hl 0 rfl) ?_
      obtain ⟨o9, h10, hf⟩ := obO hf
      obtain ⟨m12, g11, hf⟩ := ob hf
      refine r_callV X kw_X8_140 (ci := 8) rfl (c_X8_leavesState l B D cA m x0 m12 g11) ⟨Nat.le_of_ble_eq_true rfl, Nat.le_of_ble_eq_true rfl⟩ h10 hR hS hl.1 rfl rfl (Nat.le_of_ble_eq_true rfl) ⟨Nat.le_of_ble_eq_true rfl, Nat.le_of_ble_eq_true rfl⟩ dX8_forgets_27 (fun H locs hR hS => ?_)
      refine W.eq (g2 := F0 mt 30 ls []) rfl ?_
      refine lv_aload_n hx hb dX8_forgets_30 rfl (lv_at hl 0 rfl) ?_
      obtain ⟨v13, g14, hf⟩ := ob hf
      refine gR_X8_32 X hR g14 dX8_forgets_31 ?_
      refine lv_iload_n hx hb dX8_forgets_34 rfl (lv_at hl 1 rfl) ?_
      obtain ⟨v15, g16, hf⟩ := ob hf
      refine r_lI X hR g16 dX8_forgets_35 ?_
      refine lv_istore_n (lv' := [(2, .int v15), (0, .ref (B + x0)), (1, .int x1)]) hx hb dX8_forgets_36 rfl hl (by decide) rfl (fun ls hl => ?_)
      refine lv_aload_n hx hb dX8_forgets_37 rfl (lv_at hl 1 rfl) ?_
      obtain ⟨v17, g18, hf⟩ := ob hf
      refine gR_X8_32 X hR g18 dX8_forgets_38 ?_
      refine lv_iload_n hx hb dX8_forgets_41 rfl (lv_at hl 2 rfl) ?_
      refine lv_iconst (v := 0) hx hb dX8_forgets_42 (by decide) ?_
      obtain ⟨m19, g20, hf⟩ := ob hf
      refine r_sI X hR hS g20 dX8_forgets_43 (fun H locs hR hS => ?_)
      refine lv_iload_n hx hb dX8_forgets_44 rfl (lv_at hl 0 rfl) ?_
      obtain ⟨rfl, rfl⟩ := Prod.mk.inj (Option.some.inj hf)
      exact r_iret X hr hlocks hR hS rfl dX8_forgets_45
    · rw [if_pos c8] at hf
      refine lv_aload_n hx hb dX8_forgets_21 rfl (lv_at hl 0 rfl) ?_
      obtain ⟨o21, h22, hf⟩ := obO hf
      obtain ⟨t24, g23, hf⟩ := ob hf
      refine r_callV X kw_X8_119 (ci := 8) rfl (c_X8_no l B D cA m x0 t24.1 t24.2 g23) ⟨Nat.le_of_ble_eq_true rfl, Nat.le_of_ble_eq_true rfl⟩ h22 hR hS hl.1 rfl rfl (Nat.le_of_ble_eq_true rfl) ⟨Nat.le_of_ble_eq_true rfl, Nat.le_of_ble_eq_true rfl⟩ dX8_forgets_22 (fun H locs hR hS => ?_)
      refine W.eq (g2 := F0 mt 25 ls [.int t24.1]) rfl ?_
      obtain ⟨rfl, rfl⟩ := Prod.mk.inj (Option.some.inj hf)
      exact r_iret X hr hlocks hR hS rfl dX8_forgets_25
  · rw [if_pos c3] at hf
    refine lv_aload_n hx hb dX8_forgets_7 rfl (lv_at hl 0 rfl) ?_
    obtain ⟨o25, h26, hf⟩ := obO hf
    obtain ⟨t28, g27, hf⟩ := ob hf
    refine r_callV X kw_X8_134 (ci := 8) rfl (c_X8_bad l B D cA m x0 t28.1 t28.2 g27) ⟨Nat.le_of_ble_eq_true rfl, Nat.le_of_ble_eq_true rfl⟩ h26 hR hS hl.1 rfl rfl (Nat.le_of_ble_eq_true rfl) ⟨Nat.le_of_ble_eq_true rfl, Nat.le_of_ble_eq_true rfl⟩ dX8_forgets_8 (fun H locs hR hS => ?_)
    refine W.eq (g2 := F0 mt 11 ls [.int t28.1]) rfl ?_
    obtain ⟨rfl, rfl⟩ := Prod.mk.inj (Option.some.inj hf)
    exact r_iret X hr hlocks hR hS rfl dX8_forgets_11
/-! ===== TwigMatchesModel.nodes(I)I ===== -/
theorem dX8_nodes_0 : decode cX8_nodes 0 = .ok (.iload_n 1, 1) := by decide +kernel
theorem dX8_nodes_1 : decode cX8_nodes 1 = .ok (.invokestatic 161, 3) := by decide +kernel
theorem dX8_nodes_4 : decode cX8_nodes 4 = .ok (.ifCond .eq 12, 3) := by decide +kernel
theorem dX8_nodes_7 : decode cX8_nodes 7 = .ok (.aload_n 0, 1) := by decide +kernel
theorem dX8_nodes_8 : decode cX8_nodes 8 = .ok (.getfield 32, 3) := by decide +kernel
theorem dX8_nodes_11 : decode cX8_nodes 11 = .ok (.iload_n 1, 1) := by decide +kernel
theorem dX8_nodes_12 : decode cX8_nodes 12 = .ok (.iaload, 1) := by decide +kernel
theorem dX8_nodes_13 : decode cX8_nodes 13 = .ok (.goto 7, 3) := by decide +kernel
theorem dX8_nodes_16 : decode cX8_nodes 16 = .ok (.aload_n 0, 1) := by decide +kernel
theorem dX8_nodes_17 : decode cX8_nodes 17 = .ok (.invokevirtual 134, 3) := by decide +kernel
theorem dX8_nodes_20 : decode cX8_nodes 20 = .ok (.ireturn, 1) := by decide +kernel
set_option maxHeartbeats 4000000 in
set_option maxRecDepth 100000 in
theorem c_X8_nodes (l : Launch) (B : Nat) (D : va_G) (cA : Nat → ClassId) (m : Mm) (x0 : Nat) (x1 : Int32) (rZ : Int32) (mZ : Mm) (hf : f_X8_nodes m x0 x1 = some (rZ, mZ)) : Mt l B D cA yX8_nodes cX8_nodes 2 (some .int) 2 42 0 0 [.ref (B + x0), .int x1] m (some (.int rZ)) mZ := by
  refine r_start (by decide) (Nat.le_of_ble_eq_true rfl) ?_
  intro p e s mt args below meth c ls H locs X hr hlocks hnm hR hl hS
  have hx := X.1
  have hb := X.2.1
  have hl : lv_has ls 2 [(0, .ref (B + x0)), (1, .int x1)] := hl
  unfold f_X8_nodes at hf
  refine lv_iload_n hx hb dX8_nodes_0 rfl (lv_at hl 1 rfl) ?_
  obtain ⟨v2, g1, hf⟩ := ob hf
  refine r_callS X kw_X8_161 (c_X8_isTwig l B D cA m x1 v2 g1) ⟨Nat.le_of_ble_eq_true rfl, Nat.le_of_ble_eq_true rfl⟩ hR hS hl.1 rfl rfl (Nat.le_of_ble_eq_true rfl) ⟨Nat.le_of_ble_eq_true rfl, Nat.le_of_ble_eq_true rfl⟩ dX8_nodes_1 (fun H locs hR hS => ?_)
  refine W.eq (g2 := F0 mt 4 ls [.int v2]) rfl ?_
  refine lv_if_eq (tgt := 16) hx hb dX8_nodes_4 (by decide) (fun c3 => ?_) (fun c3 => ?_)
  · rw [if_pos c3] at hf
    refine lv_aload_n hx hb dX8_nodes_16 rfl (lv_at hl 0 rfl) ?_
    obtain ⟨o4, h5, hf⟩ := obO hf
    obtain ⟨t7, g6, hf⟩ := ob hf
    refine r_callV X kw_X8_134 (ci := 8) rfl (c_X8_bad l B D cA m x0 t7.1 t7.2 g6) ⟨Nat.le_of_ble_eq_true rfl, Nat.le_of_ble_eq_true rfl⟩ h5 hR hS hl.1 rfl rfl (Nat.le_of_ble_eq_true rfl) ⟨Nat.le_of_ble_eq_true rfl, Nat.le_of_ble_eq_true rfl⟩ dX8_nodes_17 (fun H locs hR hS => ?_)
    refine W.eq (g2 := F0 mt 20 ls [.int t7.1]) rfl ?_
    obtain ⟨rfl, rfl⟩ := Prod.mk.inj (Option.some.inj hf)
    exact r_iret X hr hlocks hR hS rfl dX8_nodes_20
  · rw [if_neg c3] at hf
    refine lv_aload_n hx hb dX8_nodes_7 rfl (lv_at hl 0 rfl) ?_
    obtain ⟨v8, g9, hf⟩ := ob hf
    refine gR_X8_32 X hR g9 dX8_nodes_8 ?_
    refine lv_iload_n hx hb dX8_nodes_11 rfl (lv_at hl 1 rfl) ?_
    obtain ⟨v10, g11, hf⟩ := ob hf
    refine r_lI X hR g11 dX8_nodes_12 ?_
    refine lv_goto (tgt := 20) hx hb dX8_nodes_13 (by decide) ?_
    obtain ⟨rfl, rfl⟩ := Prod.mk.inj (Option.some.inj hf)
    exact r_iret X hr hlocks hR hS rfl dX8_nodes_20
/-! ===== TwigMatchesModel.takes(IIII)Z ===== -/
theorem dX8_takes_0 : decode cX8_takes 0 = .ok (.aload_n 0, 1) := by decide +kernel
theorem dX8_takes_1 : decode cX8_takes 1 = .ok (.iload_n 1, 1) := by decide +kernel
theorem dX8_takes_2 : decode cX8_takes 2 = .ok (.iload_n 2, 1) := by decide +kernel
theorem dX8_takes_3 : decode cX8_takes 3 = .ok (.invokevirtual 105, 3) := by decide +kernel
theorem dX8_takes_6 : decode cX8_takes 6 = .ok (.bipush 6, 2) := by decide +kernel
theorem dX8_takes_8 : decode cX8_takes 8 = .ok (.if_icmp .eq 19, 3) := by decide +kernel
theorem dX8_takes_11 : decode cX8_takes 11 = .ok (.aload_n 0, 1) := by decide +kernel
theorem dX8_takes_12 : decode cX8_takes 12 = .ok (.iload_n 1, 1) := by decide +kernel
theorem dX8_takes_13 : decode cX8_takes 13 = .ok (.iload_n 2, 1) := by decide +kernel
theorem dX8_takes_14 : decode cX8_takes 14 = .ok (.invokevirtual 105, 3) := by decide +kernel
theorem dX8_takes_17 : decode cX8_takes 17 = .ok (.aload_n 0, 1) := by decide +kernel
theorem dX8_takes_18 : decode cX8_takes 18 = .ok (.iload_n 3, 1) := by decide +kernel
theorem dX8_takes_19 : decode cX8_takes 19 = .ok (.iload 4, 2) := by decide +kernel
theorem dX8_takes_21 : decode cX8_takes 21 = .ok (.invokevirtual 105, 3) := by decide +kernel
theorem dX8_takes_24 : decode cX8_takes 24 = .ok (.if_icmp .ne 7, 3) := by decide +kernel
theorem dX8_takes_27 : decode cX8_takes 27 = .ok (.iconst 1, 1) := by decide +kernel
theorem dX8_takes_28 : decode cX8_takes 28 = .ok (.goto 4, 3) := by decide +kernel
theorem dX8_takes_31 : decode cX8_takes 31 = .ok (.iconst 0, 1) := by decide +kernel
theorem dX8_takes_32 : decode cX8_takes 32 = .ok (.istore 5, 2) := by decide +kernel
theorem dX8_takes_34 : decode cX8_takes 34 = .ok (.iload 5, 2) := by decide +kernel
theorem dX8_takes_36 : decode cX8_takes 36 = .ok (.ifCond .eq 26, 3) := by decide +kernel
theorem dX8_takes_39 : decode cX8_takes 39 = .ok (.aload_n 0, 1) := by decide +kernel
theorem dX8_takes_40 : decode cX8_takes 40 = .ok (.iload_n 3, 1) := by decide +kernel
theorem dX8_takes_41 : decode cX8_takes 41 = .ok (.iload 4, 2) := by decide +kernel
theorem dX8_takes_43 : decode cX8_takes 43 = .ok (.invokevirtual 155, 3) := by decide +kernel
theorem dX8_takes_46 : decode cX8_takes 46 = .ok (.aload_n 0, 1) := by decide +kernel
theorem dX8_takes_47 : decode cX8_takes 47 = .ok (.iload_n 1, 1) := by decide +kernel
theorem dX8_takes_48 : decode cX8_takes 48 = .ok (.iload_n 2, 1) := by decide +kernel
theorem dX8_takes_49 : decode cX8_takes 49 = .ok (.invokevirtual 155, 3) := by decide +kernel
theorem dX8_takes_52 : decode cX8_takes 52 = .ok (.iconst (-1), 1) := by decide +kernel
theorem dX8_takes_53 : decode cX8_takes 53 = .ok (.ixor, 1) := by decide +kernel
theorem dX8_takes_54 : decode cX8_takes 54 = .ok (.iand, 1) := by decide +kernel
theorem dX8_takes_55 : decode cX8_takes 55 = .ok (.ifCond .ne 7, 3) := by decide +kernel
theorem dX8_takes_58 : decode cX8_takes 58 = .ok (.iconst 1, 1) := by decide +kernel
theorem dX8_takes_59 : decode cX8_takes 59 = .ok (.goto 4, 3) := by decide +kernel
theorem dX8_takes_62 : decode cX8_takes 62 = .ok (.iconst 0, 1) := by decide +kernel
theorem dX8_takes_63 : decode cX8_takes 63 = .ok (.ireturn, 1) := by decide +kernel
set_option maxHeartbeats 4000000 in
set_option maxRecDepth 100000 in
theorem c_X8_takes (l : Launch) (B : Nat) (D : va_G) (cA : Nat → ClassId) (m : Mm) (x0 : Nat) (x1 : Int32) (x2 : Int32) (x3 : Int32) (x4 : Int32) (rZ : Int32) (hf : f_X8_takes m x0 x1 x2 x3 x4 = some rZ) : Mt l B D cA yX8_takes cX8_takes 6 (some .boolean) 3 71 0 0 [.ref (B + x0), .int x1, .int x2, .int x3, .int x4] m (some (.int rZ)) m := by
  refine r_start (by decide) (Nat.le_of_ble_eq_true rfl) ?_
  intro p e s mt args below meth c ls H locs X hr hlocks hnm hR hl hS
  have hx := X.1
  have hb := X.2.1
  have hl : lv_has ls 6 [(0, .ref (B + x0)), (1, .int x1), (2, .int x2), (3, .int x3), (4, .int x4)] := hl
  unfold f_X8_takes at hf
  refine lv_aload_n hx hb dX8_takes_0 rfl (lv_at hl 0 rfl) ?_
  refine lv_iload_n hx hb dX8_takes_1 rfl (lv_at hl 1 rfl) ?_
  refine lv_iload_n hx hb dX8_takes_2 rfl (lv_at hl 2 rfl) ?_
  obtain ⟨o1, h2, hf⟩ := obO hf
  obtain ⟨v4, g3, hf⟩ := ob hf
  refine r_callV X kw_X8_105 (ci := 8) rfl (c_X8_tagOf l B D cA m x0 x1 x2 v4 g3) ⟨Nat.le_of_ble_eq_true rfl, Nat.le_of_ble_eq_true rfl⟩ h2 hR hS hl.1 rfl rfl (Nat.le_of_ble_eq_true rfl) ⟨Nat.le_of_ble_eq_true rfl, Nat.le_of_ble_eq_true rfl⟩ dX8_takes_3 (fun H locs hR hS => ?_)
  refine W.eq (g2 := F0 mt 6 ls [.int v4]) rfl ?_
  refine lv_bipush (v := 6) hx hb dX8_takes_6 (by decide) ?_
  obtain ⟨t5, hjt5, hf⟩ := ob hf
  have hJt5 : ∀ (H : Heap) (locs : List Loc) (ls : Array Slot), Rl B D cA m H → va_S (fun q => B ≤ q) s.heap H locs → lv_has ls 6 [(0, .ref (B + x0)), (1, .int x1), (2, .int x2), (3, .int x3), (4, .int x4)] → W p l e (rmm 3 0 0 71) s mt args below meth c H locs 0 0 (MQ below (mQ B D cA (some (.int rZ)) m) args s 0 0 (fun q => B ≤ q)) (F0 mt 32 ls [.int t5]) := by
    intro H locs ls hR hS hl
    refine lv_istore (lv' := [(5, .int t5), (0, .ref (B + x0)), (1, .int x1), (2, .int x2), (3, .int x3), (4, .int x4)]) hx hb dX8_takes_32 hl (by decide) rfl (fun ls hl => ?_)
    refine lv_iload hx hb dX8_takes_34 (lv_at hl 0 rfl) ?_
    refine lv_if_eq (tgt := 62) hx hb dX8_takes_36 (by decide) (fun c16 => ?_) (fun c16 => ?_)
    · rw [if_pos c16] at hf
      refine lv_iconst (v := 0) hx hb dX8_takes_62 (by decide) ?_
      obtain rfl := Option.some.inj hf
      exact r_iret X hr hlocks hR hS rfl dX8_takes_63
    · rw [if_neg c16] at hf
      refine lv_aload_n hx hb dX8_takes_39 rfl (lv_at hl 1 rfl) ?_
      refine lv_iload_n hx hb dX8_takes_40 rfl (lv_at hl 4 rfl) ?_
      refine lv_iload hx hb dX8_takes_41 (lv_at hl 5 rfl) ?_
      obtain ⟨o17, h18, hf⟩ := obO hf
      obtain ⟨v20, g19, hf⟩ := ob hf
      refine r_callV X kw_X8_155 (ci := 8) rfl (c_X8_passing l B D cA m x0 x3 x4 v20 g19) ⟨Nat.le_of_ble_eq_true rfl, Nat.le_of_ble_eq_true rfl⟩ h18 hR hS hl.1 rfl rfl (Nat.le_of_ble_eq_true rfl) ⟨Nat.le_of_ble_eq_true rfl, Nat.le_of_ble_eq_true rfl⟩ dX8_takes_43 (fun H locs hR hS => ?_)
      refine W.eq (g2 := F0 mt 46 ls [.int v20]) rfl ?_
      refine lv_aload_n hx hb dX8_takes_46 rfl (lv_at hl 1 rfl) ?_
      refine lv_iload_n hx hb dX8_takes_47 rfl (lv_at hl 2 rfl) ?_
      refine lv_iload_n hx hb dX8_takes_48 rfl (lv_at hl 3 rfl) ?_
      obtain ⟨o21, h22, hf⟩ := obO hf
      obtain ⟨v24, g23, hf⟩ := ob hf
      refine r_callV X kw_X8_155 (ci := 8) rfl (c_X8_passing l B D cA m x0 x1 x2 v24 g23) ⟨Nat.le_of_ble_eq_true rfl, Nat.le_of_ble_eq_true rfl⟩ h22 hR hS hl.1 rfl rfl (Nat.le_of_ble_eq_true rfl) ⟨Nat.le_of_ble_eq_true rfl, Nat.le_of_ble_eq_true rfl⟩ dX8_takes_49 (fun H locs hR hS => ?_)
      refine W.eq (g2 := F0 mt 52 ls [.int v24, .int v20]) rfl ?_
      refine lv_iconst (v := -1) hx hb dX8_takes_52 (by decide) ?_
      refine lv_ixor hx hb dX8_takes_53 ?_
      refine lv_iand hx hb dX8_takes_54 ?_
      refine lv_if_ne (tgt := 62) hx hb dX8_takes_55 (by decide) (fun c25 => ?_) (fun c25 => ?_)
      · rw [if_neg c25] at hf
        refine lv_iconst (v := 0) hx hb dX8_takes_62 (by decide) ?_
        obtain rfl := Option.some.inj hf
        exact r_iret X hr hlocks hR hS rfl dX8_takes_63
      · rw [if_pos c25] at hf
        refine lv_iconst (v := 1) hx hb dX8_takes_58 (by decide) ?_
        refine lv_goto (tgt := 63) hx hb dX8_takes_59 (by decide) ?_
        obtain rfl := Option.some.inj hf
        exact r_iret X hr hlocks hR hS rfl dX8_takes_63
  have hf := hjt5
  clear hjt5
  refine lv_icmp_eq (tgt := 27) hx hb dX8_takes_8 (by decide) (fun c6 => ?_) (fun c6 => ?_)
  · rw [if_pos c6] at hf
    refine lv_iconst (v := 1) hx hb dX8_takes_27 (by decide) ?_
    refine lv_goto (tgt := 32) hx hb dX8_takes_28 (by decide) ?_
    obtain rfl := Option.some.inj hf
    exact hJt5 H locs ls hR hS (lv_sub hl [0, 1, 2, 3, 4] rfl)
  · rw [if_neg c6] at hf
    refine lv_aload_n hx hb dX8_takes_11 rfl (lv_at hl 0 rfl) ?_
    refine lv_iload_n hx hb dX8_takes_12 rfl (lv_at hl 1 rfl) ?_
    refine lv_iload_n hx hb dX8_takes_13 rfl (lv_at hl 2 rfl) ?_
    obtain ⟨o7, h8, hf⟩ := obO hf
    obtain ⟨v10, g9, hf⟩ := ob hf
    refine r_callV X kw_X8_105 (ci := 8) rfl (c_X8_tagOf l B D cA m x0 x1 x2 v10 g9) ⟨Nat.le_of_ble_eq_true rfl, Nat.le_of_ble_eq_true rfl⟩ h8 hR hS hl.1 rfl rfl (Nat.le_of_ble_eq_true rfl) ⟨Nat.le_of_ble_eq_true rfl, Nat.le_of_ble_eq_true rfl⟩ dX8_takes_14 (fun H locs hR hS => ?_)
    refine W.eq (g2 := F0 mt 17 ls [.int v10]) rfl ?_
    refine lv_aload_n hx hb dX8_takes_17 rfl (lv_at hl 0 rfl) ?_
    refine lv_iload_n hx hb dX8_takes_18 rfl (lv_at hl 3 rfl) ?_
    refine lv_iload hx hb dX8_takes_19 (lv_at hl 4 rfl) ?_
    obtain ⟨o11, h12, hf⟩ := obO hf
    obtain ⟨v14, g13, hf⟩ := ob hf
    refine r_callV X kw_X8_105 (ci := 8) rfl (c_X8_tagOf l B D cA m x0 x3 x4 v14 g13) ⟨Nat.le_of_ble_eq_true rfl, Nat.le_of_ble_eq_true rfl⟩ h12 hR hS hl.1 rfl rfl (Nat.le_of_ble_eq_true rfl) ⟨Nat.le_of_ble_eq_true rfl, Nat.le_of_ble_eq_true rfl⟩ dX8_takes_21 (fun H locs hR hS => ?_)
    refine W.eq (g2 := F0 mt 24 ls [.int v14, .int v10]) rfl ?_
    refine lv_icmp_ne (tgt := 31) hx hb dX8_takes_24 (by decide) (fun c15 => ?_) (fun c15 => ?_)
    · rw [if_neg c15] at hf
      refine lv_iconst (v := 0) hx hb dX8_takes_31 (by decide) ?_
      obtain rfl := Option.some.inj hf
      exact hJt5 H locs ls hR hS (lv_sub hl [0, 1, 2, 3, 4] rfl)
    · rw [if_pos c15] at hf
      refine lv_iconst (v := 1) hx hb dX8_takes_27 (by decide) ?_
      refine lv_goto (tgt := 32) hx hb dX8_takes_28 (by decide) ?_
      obtain rfl := Option.some.inj hf
      exact hJt5 H locs ls hR hS (lv_sub hl [0, 1, 2, 3, 4] rfl)
/-! ===== TwigMatchesModel.follows(IIII)Z ===== -/
theorem dX8_follows_0 : decode cX8_follows 0 = .ok (.iconst 0, 1) := by decide +kernel
theorem dX8_follows_1 : decode cX8_follows 1 = .ok (.istore 5, 2) := by decide +kernel
theorem dX8_follows_3 : decode cX8_follows 3 = .ok (.iload 4, 2) := by decide +kernel
theorem dX8_follows_5 : decode cX8_follows 5 = .ok (.iconst 1, 1) := by decide +kernel
theorem dX8_follows_6 : decode cX8_follows 6 = .ok (.iadd, 1) := by decide +kernel
theorem dX8_follows_7 : decode cX8_follows 7 = .ok (.istore 6, 2) := by decide +kernel
theorem dX8_follows_9 : decode cX8_follows 9 = .ok (.iload 6, 2) := by decide +kernel
theorem dX8_follows_11 : decode cX8_follows 11 = .ok (.aload_n 0, 1) := by decide +kernel
theorem dX8_follows_12 : decode cX8_follows 12 = .ok (.getfield 32, 3) := by decide +kernel
theorem dX8_follows_15 : decode cX8_follows 15 = .ok (.iload_n 3, 1) := by decide +kernel
theorem dX8_follows_16 : decode cX8_follows 16 = .ok (.iaload, 1) := by decide +kernel
theorem dX8_follows_17 : decode cX8_follows 17 = .ok (.if_icmp .ge 93, 3) := by decide +kernel
theorem dX8_follows_20 : decode cX8_follows 20 = .ok (.aload_n 0, 1) := by decide +kernel
theorem dX8_follows_21 : decode cX8_follows 21 = .ok (.iload_n 1, 1) := by decide +kernel
theorem dX8_follows_22 : decode cX8_follows 22 = .ok (.iload_n 2, 1) := by decide +kernel
theorem dX8_follows_23 : decode cX8_follows 23 = .ok (.invokevirtual 158, 3) := by decide +kernel
theorem dX8_follows_26 : decode cX8_follows 26 = .ok (.iconst 1, 1) := by decide +kernel
theorem dX8_follows_27 : decode cX8_follows 27 = .ok (.if_icmp .ne 34, 3) := by decide +kernel
theorem dX8_follows_30 : decode cX8_follows 30 = .ok (.aload_n 0, 1) := by decide +kernel
theorem dX8_follows_31 : decode cX8_follows 31 = .ok (.iload_n 3, 1) := by decide +kernel
theorem dX8_follows_32 : decode cX8_follows 32 = .ok (.iload 6, 2) := by decide +kernel
theorem dX8_follows_34 : decode cX8_follows 34 = .ok (.invokevirtual 113, 3) := by decide +kernel
theorem dX8_follows_37 : decode cX8_follows 37 = .ok (.iload 4, 2) := by decide +kernel
theorem dX8_follows_39 : decode cX8_follows 39 = .ok (.if_icmp .ne 18, 3) := by decide +kernel
theorem dX8_follows_42 : decode cX8_follows 42 = .ok (.aload_n 0, 1) := by decide +kernel
theorem dX8_follows_43 : decode cX8_follows 43 = .ok (.iload_n 3, 1) := by decide +kernel
theorem dX8_follows_44 : decode cX8_follows 44 = .ok (.iload 6, 2) := by decide +kernel
theorem dX8_follows_46 : decode cX8_follows 46 = .ok (.invokevirtual 158, 3) := by decide +kernel
theorem dX8_follows_49 : decode cX8_follows 49 = .ok (.iconst 1, 1) := by decide +kernel
theorem dX8_follows_50 : decode cX8_follows 50 = .ok (.if_icmp .ne 7, 3) := by decide +kernel
theorem dX8_follows_53 : decode cX8_follows 53 = .ok (.iconst 1, 1) := by decide +kernel
theorem dX8_follows_54 : decode cX8_follows 54 = .ok (.goto 16, 3) := by decide +kernel
theorem dX8_follows_57 : decode cX8_follows 57 = .ok (.iconst 0, 1) := by decide +kernel
theorem dX8_follows_58 : decode cX8_follows 58 = .ok (.goto 12, 3) := by decide +kernel
theorem dX8_follows_61 : decode cX8_follows 61 = .ok (.aload_n 0, 1) := by decide +kernel
theorem dX8_follows_62 : decode cX8_follows 62 = .ok (.iload_n 3, 1) := by decide +kernel
theorem dX8_follows_63 : decode cX8_follows 63 = .ok (.iload 6, 2) := by decide +kernel
theorem dX8_follows_65 : decode cX8_follows 65 = .ok (.iload 4, 2) := by decide +kernel
theorem dX8_follows_67 : decode cX8_follows 67 = .ok (.invokevirtual 167, 3) := by decide +kernel
theorem dX8_follows_70 : decode cX8_follows 70 = .ok (.istore 7, 2) := by decide +kernel
theorem dX8_follows_72 : decode cX8_follows 72 = .ok (.iload 5, 2) := by decide +kernel
theorem dX8_follows_74 : decode cX8_follows 74 = .ok (.ifCond .ne 23, 3) := by decide +kernel
theorem dX8_follows_77 : decode cX8_follows 77 = .ok (.iload 7, 2) := by decide +kernel
theorem dX8_follows_79 : decode cX8_follows 79 = .ok (.ifCond .eq 22, 3) := by decide +kernel
theorem dX8_follows_82 : decode cX8_follows 82 = .ok (.aload_n 0, 1) := by decide +kernel
theorem dX8_follows_83 : decode cX8_follows 83 = .ok (.getfield 44, 3) := by decide +kernel
theorem dX8_follows_86 : decode cX8_follows 86 = .ok (.iload_n 2, 1) := by decide +kernel
theorem dX8_follows_87 : decode cX8_follows 87 = .ok (.iaload, 1) := by decide +kernel
theorem dX8_follows_88 : decode cX8_follows 88 = .ok (.iload 6, 2) := by decide +kernel
theorem dX8_follows_90 : decode cX8_follows 90 = .ok (.ishr, 1) := by decide +kernel
theorem dX8_follows_91 : decode cX8_follows 91 = .ok (.iconst 1, 1) := by decide +kernel
theorem dX8_follows_92 : decode cX8_follows 92 = .ok (.iand, 1) := by decide +kernel
theorem dX8_follows_93 : decode cX8_follows 93 = .ok (.iconst 1, 1) := by decide +kernel
theorem dX8_follows_94 : decode cX8_follows 94 = .ok (.if_icmp .ne 7, 3) := by decide +kernel
theorem dX8_follows_97 : decode cX8_follows 97 = .ok (.iconst 1, 1) := by decide +kernel
theorem dX8_follows_98 : decode cX8_follows 98 = .ok (.goto 4, 3) := by decide +kernel
theorem dX8_follows_101 : decode cX8_follows 101 = .ok (.iconst 0, 1) := by decide +kernel
theorem dX8_follows_102 : decode cX8_follows 102 = .ok (.istore 5, 2) := by decide +kernel
theorem dX8_follows_104 : decode cX8_follows 104 = .ok (.iinc 6 1, 3) := by decide +kernel
theorem dX8_follows_107 : decode cX8_follows 107 = .ok (.goto (-98), 3) := by decide +kernel
theorem dX8_follows_110 : decode cX8_follows 110 = .ok (.iload 5, 2) := by decide +kernel
theorem dX8_follows_112 : decode cX8_follows 112 = .ok (.ireturn, 1) := by decide +kernel
set_option maxHeartbeats 4000000 in
set_option maxRecDepth 100000 in
theorem c_X8_follows (l : Launch) (B : Nat) (D : va_G) (cA : Nat → ClassId) (m : Mm) (x0 : Nat) (x1 : Int32) (x2 : Int32) (x3 : Int32) (x4 : Int32) (rZ : Int32) (hf : f_X8_follows m x0 x1 x2 x3 x4 = some rZ) : Mt l B D cA yX8_follows cX8_follows 8 (some .boolean) 3 68 0 0 [.ref (B + x0), .int x1, .int x2, .int x3, .int x4] m (some (.int rZ)) m := by
  refine r_start (by decide) (Nat.le_of_ble_eq_true rfl) ?_
  intro p e s mt args below meth c ls H locs X hr hlocks hnm hR hl hS
  have hx := X.1
  have hb := X.2.1
  have hl : lv_has ls 8 [(0, .ref (B + x0)), (1, .int x1), (2, .int x2), (3, .int x3), (4, .int x4)] := hl
  unfold f_X8_follows at hf
  refine lv_iconst (v := 0) hx hb dX8_follows_0 (by decide) ?_
  refine lv_istore (lv' := [(5, .int (0 : Int32)), (0, .ref (B + x0)), (1, .int x1), (2, .int x2), (3, .int x3), (4, .int x4)]) hx hb dX8_follows_1 hl (by decide) rfl (fun ls hl => ?_)
  refine lv_iload hx hb dX8_follows_3 (lv_at hl 5 rfl) ?_
  refine lv_iconst (v := 1) hx hb dX8_follows_5 (by decide) ?_
  refine lv_iadd hx hb dX8_follows_6 ?_
  refine lv_istore (lv' := [(6, .int (x4 + (1 : Int32))), (5, .int (0 : Int32)), (0, .ref (B + x0)), (1, .int x1), (2, .int x2), (3, .int x3), (4, .int x4)]) hx hb dX8_follows_7 hl (by decide) rfl (fun ls hl => ?_)
  obtain ⟨e2, hwe2, hf⟩ := ob hf
  refine whl_rule (P := (fun t1 => ∀ (H : Heap) (locs : List Loc) (ls : Array Slot), Rl B D cA m H → va_S (fun q => B ≤ q) s.heap H locs → lv_has ls 8 [(0, .ref (B + x0)), (1, .int x1), (2, .int x2), (3, .int x3), (4, .int x4), (5, .int t1.1), (6, .int t1.2)] → W p l e (rmm 3 0 0 68) s mt args below meth c H locs 0 0 (MQ below (mQ B D cA (some (.int rZ)) m) args s 0 0 (fun q => B ≤ q)) (F0 mt 9 ls []))) (Qx := (fun e2 => ∀ (H : Heap) (locs : List Loc) (ls : Array Slot), Rl B D cA m H → va_S (fun q => B ≤ q) s.heap H locs → lv_has ls 8 [(5, .int e2)] → W p l e (rmm 3 0 0 68) s mt args below meth c H locs 0 0 (MQ below (mQ B D cA (some (.int rZ)) m) args s 0 0 (fun q => B ≤ q)) (F0 mt 110 ls []))) ?_ FU _ e2 hwe2 ?_ H locs ls hR hS (lv_sub hl [2, 3, 4, 5, 6, 1, 0] rfl)
  · clear hwe2 hf
    intro t1 q3 hf hxlq3 hxrq3 H locs ls hR hS hl
    obtain ⟨z4, z5⟩ := t1
    have hf : f_X8_follows_L9 m x0 x1 x2 x3 x4 z4 z5 = some q3 := hf
    have hR : Rl B D cA m H := hR
    have hl : lv_has ls 8 [(0, .ref (B + x0)), (1, .int x1), (2, .int x2), (3, .int x3), (4, .int x4), (5, .int z4), (6, .int z5)] := hl
    unfold f_X8_follows_L9 at hf
    refine lv_iload hx hb dX8_follows_9 (lv_at hl 6 rfl) ?_
    refine lv_aload_n hx hb dX8_follows_11 rfl (lv_at hl 0 rfl) ?_
    obtain ⟨v6, g7, hf⟩ := ob hf
    refine gR_X8_32 X hR g7 dX8_follows_12 ?_
    refine lv_iload_n hx hb dX8_follows_15 rfl (lv_at hl 3 rfl) ?_
    obtain ⟨v8, g9, hf⟩ := ob hf
    refine r_lI X hR g9 dX8_follows_16 ?_
    refine lv_icmp_ge (tgt := 110) hx hb dX8_follows_17 (by decide) (fun c10 => ?_) (fun c10 => ?_)
    · rw [if_pos c10] at hf
      obtain rfl := Option.some.inj hf
      exact hxrq3 _ rfl H locs ls hR hS (lv_sub hl [5] rfl)
    · rw [if_neg c10] at hf
      refine lv_aload_n hx hb dX8_follows_20 rfl (lv_at hl 0 rfl) ?_
      refine lv_iload_n hx hb dX8_follows_21 rfl (lv_at hl 1 rfl) ?_
      refine lv_iload_n hx hb dX8_follows_22 rfl (lv_at hl 2 rfl) ?_
      obtain ⟨o11, h12, hf⟩ := obO hf
      obtain ⟨v14, g13, hf⟩ := ob hf
      refine r_callV X kw_X8_158 (ci := 8) rfl (c_X8_jointOf l B D cA m x0 x1 x2 v14 g13) ⟨Nat.le_of_ble_eq_true rfl, Nat.le_of_ble_eq_true rfl⟩ h12 hR hS hl.1 rfl rfl (Nat.le_of_ble_eq_true rfl) ⟨Nat.le_of_ble_eq_true rfl, Nat.le_of_ble_eq_true rfl⟩ dX8_follows_23 (fun H locs hR hS => ?_)
      refine W.eq (g2 := F0 mt 26 ls [.int v14]) rfl ?_
      refine lv_iconst (v := 1) hx hb dX8_follows_26 (by decide) ?_
      obtain ⟨t15, hjt15, hf⟩ := ob hf
      have hJt15 : ∀ (H : Heap) (locs : List Loc) (ls : Array Slot), Rl B D cA m H → va_S (fun q => B ≤ q) s.heap H locs → lv_has ls 8 [(0, .ref (B + x0)), (1, .int x1), (2, .int x2), (3, .int x3), (4, .int x4), (5, .int z4), (6, .int z5)] → W p l e (rmm 3 0 0 68) s mt args below meth c H locs 0 0 (MQ below (mQ B D cA (some (.int rZ)) m) args s 0 0 (fun q => B ≤ q)) (F0 mt 70 ls [.int t15]) := by
        intro H locs ls hR hS hl
        refine lv_istore (lv' := [(7, .int t15), (0, .ref (B + x0)), (1, .int x1), (2, .int x2), (3, .int x3), (4, .int x4), (5, .int z4), (6, .int z5)]) hx hb dX8_follows_70 hl (by decide) rfl (fun ls hl => ?_)
        refine lv_iload hx hb dX8_follows_72 (lv_at hl 6 rfl) ?_
        refine lv_if_ne (tgt := 97) hx hb dX8_follows_74 (by decide) (fun c31 => ?_) (fun c31 => ?_)
        · rw [if_neg c31] at hf
          refine lv_iconst (v := 1) hx hb dX8_follows_97 (by decide) ?_
          refine lv_goto (tgt := 102) hx hb dX8_follows_98 (by decide) ?_
          refine lv_istore (lv' := [(5, .int (1 : Int32)), (7, .int t15), (0, .ref (B + x0)), (1, .int x1), (2, .int x2), (3, .int x3), (4, .int x4), (6, .int z5)]) hx hb dX8_follows_102 hl (by decide) rfl (fun ls hl => ?_)
          refine lv_iinc (v := (z5 + 1)) (lv' := [(6, .int (z5 + 1)), (5, .int (1 : Int32)), (7, .int t15), (0, .ref (B + x0)), (1, .int x1), (2, .int x2), (3, .int x3), (4, .int x4)]) hx hb dX8_follows_104 hl (k := 7) rfl (congrArg (fun z => z5 + z) (by decide)) (by decide) rfl (fun ls hl => ?_)
          refine lv_goto (tgt := 9) hx hb dX8_follows_107 (by decide) ?_
          obtain rfl := Option.some.inj hf
          exact hxlq3 _ rfl H locs ls hR hS (lv_sub hl [3, 4, 5, 6, 7, 1, 0] rfl)
        · rw [if_pos c31] at hf
          refine lv_iload hx hb dX8_follows_77 (lv_at hl 0 rfl) ?_
          refine lv_if_eq (tgt := 101) hx hb dX8_follows_79 (by decide) (fun c32 => ?_) (fun c32 => ?_)
          · rw [if_pos c32] at hf
            refine lv_iconst (v := 0) hx hb dX8_follows_101 (by decide) ?_
            refine lv_istore (lv' := [(5, .int (0 : Int32)), (7, .int t15), (0, .ref (B + x0)), (1, .int x1), (2, .int x2), (3, .int x3), (4, .int x4), (6, .int z5)]) hx hb dX8_follows_102 hl (by decide) rfl (fun ls hl => ?_)
            refine lv_iinc (v := (z5 + 1)) (lv' := [(6, .int (z5 + 1)), (5, .int (0 : Int32)), (7, .int t15), (0, .ref (B + x0)), (1, .int x1), (2, .int x2), (3, .int x3), (4, .int x4)]) hx hb dX8_follows_104 hl (k := 7) rfl (congrArg (fun z => z5 + z) (by decide)) (by decide) rfl (fun ls hl => ?_)
            refine lv_goto (tgt := 9) hx hb dX8_follows_107 (by decide) ?_
            obtain rfl := Option.some.inj hf
            exact hxlq3 _ rfl H locs ls hR hS (lv_sub hl [3, 4, 5, 6, 7, 1, 0] rfl)
          · rw [if_neg c32] at hf
            refine lv_aload_n hx hb dX8_follows_82 rfl (lv_at hl 1 rfl) ?_
            obtain ⟨v33, g34, hf⟩ := ob hf
            refine gR_X8_44 X hR g34 dX8_follows_83 ?_
            refine lv_iload_n hx hb dX8_follows_86 rfl (lv_at hl 3 rfl) ?_
            obtain ⟨v35, g36, hf⟩ := ob hf
            refine r_lI X hR g36 dX8_follows_87 ?_
            refine lv_iload hx hb dX8_follows_88 (lv_at hl 7 rfl) ?_
            refine lv_ishr hx hb dX8_follows_90 ?_
            refine lv_iconst (v := 1) hx hb dX8_follows_91 (by decide) ?_
            refine lv_iand hx hb dX8_follows_92 ?_
            refine lv_iconst (v := 1) hx hb dX8_follows_93 (by decide) ?_
            refine lv_icmp_ne (tgt := 101) hx hb dX8_follows_94 (by decide) (fun c37 => ?_) (fun c37 => ?_)
            · rw [if_neg c37] at hf
              refine lv_iconst (v := 0) hx hb dX8_follows_101 (by decide) ?_
              refine lv_istore (lv' := [(5, .int (0 : Int32)), (7, .int t15), (0, .ref (B + x0)), (1, .int x1), (2, .int x2), (3, .int x3), (4, .int x4), (6, .int z5)]) hx hb dX8_follows_102 hl (by decide) rfl (fun ls hl => ?_)
              refine lv_iinc (v := (z5 + 1)) (lv' := [(6, .int (z5 + 1)), (5, .int (0 : Int32)), (7, .int t15), (0, .ref (B + x0)), (1, .int x1), (2, .int x2), (3, .int x3), (4, .int x4)]) hx hb dX8_follows_104 hl (k := 7) rfl (congrArg (fun z => z5 + z) (by decide)) (by decide) rfl (fun ls hl => ?_)
              refine lv_goto (tgt := 9) hx hb dX8_follows_107 (by decide) ?_
              obtain rfl := Option.some.inj hf
              exact hxlq3 _ rfl H locs ls hR hS (lv_sub hl [3, 4, 5, 6, 7, 1, 0] rfl)
            · rw [if_pos c37] at hf
              refine lv_iconst (v := 1) hx hb dX8_follows_97 (by decide) ?_
              refine lv_goto (tgt := 102) hx hb dX8_follows_98 (by decide) ?_
              refine lv_istore (lv' := [(5, .int (1 : Int32)), (7, .int t15), (0, .ref (B + x0)), (1, .int x1), (2, .int x2), (3, .int x3), (4, .int x4), (6, .int z5)]) hx hb dX8_follows_102 hl (by decide) rfl (fun ls hl => ?_)
              refine lv_iinc (v := (z5 + 1)) (lv' := [(6, .int (z5 + 1)), (5, .int (1 : Int32)), (7, .int t15), (0, .ref (B + x0)), (1, .int x1), (2, .int x2), (3, .int x3), (4, .int x4)]) hx hb dX8_follows_104 hl (k := 7) rfl (congrArg (fun z => z5 + z) (by decide)) (by decide) rfl (fun ls hl => ?_)
              refine lv_goto (tgt := 9) hx hb dX8_follows_107 (by decide) ?_
              obtain rfl := Option.some.inj hf
              exact hxlq3 _ rfl H locs ls hR hS (lv_sub hl [3, 4, 5, 6, 7, 1, 0] rfl)
      have hf := hjt15
      clear hjt15
      refine lv_icmp_ne (tgt := 61) hx hb dX8_follows_27 (by decide) (fun c16 => ?_) (fun c16 => ?_)
      · rw [if_neg c16] at hf
        refine lv_aload_n hx hb dX8_follows_61 rfl (lv_at hl 0 rfl) ?_
        refine lv_iload_n hx hb dX8_follows_62 rfl (lv_at hl 3 rfl) ?_
        refine lv_iload hx hb dX8_follows_63 (lv_at hl 6 rfl) ?_
        refine lv_iload hx hb dX8_follows_65 (lv_at hl 4 rfl) ?_
        obtain ⟨o17, h18, hf⟩ := obO hf
        obtain ⟨v20, g19, hf⟩ := ob hf
        refine r_callV X kw_X8_167 (ci := 8) rfl (c_X8_isWithin l B D cA m x0 x3 z5 x4 v20 g19) ⟨Nat.le_of_ble_eq_true rfl, Nat.le_of_ble_eq_true rfl⟩ h18 hR hS hl.1 rfl rfl (Nat.le_of_ble_eq_true rfl) ⟨Nat.le_of_ble_eq_true rfl, Nat.le_of_ble_eq_true rfl⟩ dX8_follows_67 (fun H locs hR hS => ?_)
        refine W.eq (g2 := F0 mt 70 ls [.int v20]) rfl ?_
        obtain rfl := Option.some.inj hf
        exact hJt15 H locs ls hR hS (lv_sub hl [0, 1, 2, 3, 4, 5, 6] rfl)
      · rw [if_pos c16] at hf
        refine lv_aload_n hx hb dX8_follows_30 rfl (lv_at hl 0 rfl) ?_
        refine lv_iload_n hx hb dX8_follows_31 rfl (lv_at hl 3 rfl) ?_
        refine lv_iload hx hb dX8_follows_32 (lv_at hl 6 rfl) ?_
        obtain ⟨o21, h22, hf⟩ := obO hf
        obtain ⟨v24, g23, hf⟩ := ob hf
        refine r_callV X kw_X8_113 (ci := 8) rfl (c_X8_ofNode l B D cA m x0 x3 z5 v24 g23) ⟨Nat.le_of_ble_eq_true rfl, Nat.le_of_ble_eq_true rfl⟩ h22 hR hS hl.1 rfl rfl (Nat.le_of_ble_eq_true rfl) ⟨Nat.le_of_ble_eq_true rfl, Nat.le_of_ble_eq_true rfl⟩ dX8_follows_34 (fun H locs hR hS => ?_)
        refine W.eq (g2 := F0 mt 37 ls [.int v24]) rfl ?_
        refine lv_iload hx hb dX8_follows_37 (lv_at hl 4 rfl) ?_
        refine lv_icmp_ne (tgt := 57) hx hb dX8_follows_39 (by decide) (fun c25 => ?_) (fun c25 => ?_)
        · rw [if_neg c25] at hf
          refine lv_iconst (v := 0) hx hb dX8_follows_57 (by decide) ?_
          refine lv_goto (tgt := 70) hx hb dX8_follows_58 (by decide) ?_
          obtain rfl := Option.some.inj hf
          exact hJt15 H locs ls hR hS (lv_sub hl [0, 1, 2, 3, 4, 5, 6] rfl)
        · rw [if_pos c25] at hf
          refine lv_aload_n hx hb dX8_follows_42 rfl (lv_at hl 0 rfl) ?_
          refine lv_iload_n hx hb dX8_follows_43 rfl (lv_at hl 3 rfl) ?_
          refine lv_iload hx hb dX8_follows_44 (lv_at hl 6 rfl) ?_
          obtain ⟨o26, h27, hf⟩ := obO hf
          obtain ⟨v29, g28, hf⟩ := ob hf
          refine r_callV X kw_X8_158 (ci := 8) rfl (c_X8_jointOf l B D cA m x0 x3 z5 v29 g28) ⟨Nat.le_of_ble_eq_true rfl, Nat.le_of_ble_eq_true rfl⟩ h27 hR hS hl.1 rfl rfl (Nat.le_of_ble_eq_true rfl) ⟨Nat.le_of_ble_eq_true rfl, Nat.le_of_ble_eq_true rfl⟩ dX8_follows_46 (fun H locs hR hS => ?_)
          refine W.eq (g2 := F0 mt 49 ls [.int v29]) rfl ?_
          refine lv_iconst (v := 1) hx hb dX8_follows_49 (by decide) ?_
          refine lv_icmp_ne (tgt := 57) hx hb dX8_follows_50 (by decide) (fun c30 => ?_) (fun c30 => ?_)
          · rw [if_neg c30] at hf
            refine lv_iconst (v := 0) hx hb dX8_follows_57 (by decide) ?_
            refine lv_goto (tgt := 70) hx hb dX8_follows_58 (by decide) ?_
            obtain rfl := Option.some.inj hf
            exact hJt15 H locs ls hR hS (lv_sub hl [0, 1, 2, 3, 4, 5, 6] rfl)
          · rw [if_pos c30] at hf
            refine lv_iconst (v := 1) hx hb dX8_follows_53 (by decide) ?_
            refine lv_goto (tgt := 70) hx hb dX8_follows_54 (by decide) ?_
            obtain rfl := Option.some.inj hf
            exact hJt15 H locs ls hR hS (lv_sub hl [0, 1, 2, 3, 4, 5, 6] rfl)
  · intro H locs ls hR hS hl
    refine lv_iload hx hb dX8_follows_110 (lv_at hl 0 rfl) ?_
    obtain ⟨h38, hf⟩ := obB hf
    obtain rfl := Option.some.inj hf
    exact r_iret X hr hlocks hR hS h38 dX8_follows_112
