/-! ===== TwigMatchesModel.readsNode(III)Z ===== -/
theorem dX8_readsNode_0 : decode cX8_readsNode 0 = .ok (.aload_n 0, 1) := by decide +kernel
theorem dX8_readsNode_1 : decode cX8_readsNode 1 = .ok (.invokevirtual 232, 3) := by decide +kernel
theorem dX8_readsNode_4 : decode cX8_readsNode 4 = .ok (.bipush 97, 2) := by decide +kernel
theorem dX8_readsNode_6 : decode cX8_readsNode 6 = .ok (.bipush 102, 2) := by decide +kernel
theorem dX8_readsNode_8 : decode cX8_readsNode 8 = .ok (.invokestatic 90, 3) := by decide +kernel
theorem dX8_readsNode_11 : decode cX8_readsNode 11 = .ok (.ifCond .ne 18, 3) := by decide +kernel
theorem dX8_readsNode_14 : decode cX8_readsNode 14 = .ok (.aload_n 0, 1) := by decide +kernel
theorem dX8_readsNode_15 : decode cX8_readsNode 15 = .ok (.invokevirtual 232, 3) := by decide +kernel
theorem dX8_readsNode_18 : decode cX8_readsNode 18 = .ok (.bipush 42, 2) := by decide +kernel
theorem dX8_readsNode_20 : decode cX8_readsNode 20 = .ok (.if_icmp .eq 9, 3) := by decide +kernel
theorem dX8_readsNode_23 : decode cX8_readsNode 23 = .ok (.aload_n 0, 1) := by decide +kernel
theorem dX8_readsNode_24 : decode cX8_readsNode 24 = .ok (.iconst 1, 1) := by decide +kernel
theorem dX8_readsNode_25 : decode cX8_readsNode 25 = .ok (.invokevirtual 235, 3) := by decide +kernel
theorem dX8_readsNode_28 : decode cX8_readsNode 28 = .ok (.ireturn, 1) := by decide +kernel
theorem dX8_readsNode_29 : decode cX8_readsNode 29 = .ok (.aload_n 0, 1) := by decide +kernel
theorem dX8_readsNode_30 : decode cX8_readsNode 30 = .ok (.getfield 248, 3) := by decide +kernel
theorem dX8_readsNode_33 : decode cX8_readsNode 33 = .ok (.bipush 6, 2) := by decide +kernel
theorem dX8_readsNode_35 : decode cX8_readsNode 35 = .ok (.if_icmp .ne 9, 3) := by decide +kernel
theorem dX8_readsNode_38 : decode cX8_readsNode 38 = .ok (.aload_n 0, 1) := by decide +kernel
theorem dX8_readsNode_39 : decode cX8_readsNode 39 = .ok (.iconst 2, 1) := by decide +kernel
theorem dX8_readsNode_40 : decode cX8_readsNode 40 = .ok (.invokevirtual 235, 3) := by decide +kernel
theorem dX8_readsNode_43 : decode cX8_readsNode 43 = .ok (.ireturn, 1) := by decide +kernel
theorem dX8_readsNode_44 : decode cX8_readsNode 44 = .ok (.bipush 6, 2) := by decide +kernel
theorem dX8_readsNode_46 : decode cX8_readsNode 46 = .ok (.aload_n 0, 1) := by decide +kernel
theorem dX8_readsNode_47 : decode cX8_readsNode 47 = .ok (.getfield 248, 3) := by decide +kernel
theorem dX8_readsNode_50 : decode cX8_readsNode 50 = .ok (.imul, 1) := by decide +kernel
theorem dX8_readsNode_51 : decode cX8_readsNode 51 = .ok (.istore 4, 2) := by decide +kernel
theorem dX8_readsNode_53 : decode cX8_readsNode 53 = .ok (.aload_n 0, 1) := by decide +kernel
theorem dX8_readsNode_54 : decode cX8_readsNode 54 = .ok (.getfield 84, 3) := by decide +kernel
theorem dX8_readsNode_57 : decode cX8_readsNode 57 = .ok (.iload 4, 2) := by decide +kernel
theorem dX8_readsNode_59 : decode cX8_readsNode 59 = .ok (.aload_n 0, 1) := by decide +kernel
theorem dX8_readsNode_60 : decode cX8_readsNode 60 = .ok (.invokevirtual 232, 3) := by decide +kernel
theorem dX8_readsNode_63 : decode cX8_readsNode 63 = .ok (.bipush 42, 2) := by decide +kernel
theorem dX8_readsNode_65 : decode cX8_readsNode 65 = .ok (.if_icmp .ne 8, 3) := by decide +kernel
theorem dX8_readsNode_68 : decode cX8_readsNode 68 = .ok (.bipush 6, 2) := by decide +kernel
theorem dX8_readsNode_70 : decode cX8_readsNode 70 = .ok (.goto 10, 3) := by decide +kernel
theorem dX8_readsNode_73 : decode cX8_readsNode 73 = .ok (.aload_n 0, 1) := by decide +kernel
theorem dX8_readsNode_74 : decode cX8_readsNode 74 = .ok (.invokevirtual 232, 3) := by decide +kernel
theorem dX8_readsNode_77 : decode cX8_readsNode 77 = .ok (.bipush 97, 2) := by decide +kernel
theorem dX8_readsNode_79 : decode cX8_readsNode 79 = .ok (.isub, 1) := by decide +kernel
theorem dX8_readsNode_80 : decode cX8_readsNode 80 = .ok (.iastore, 1) := by decide +kernel
theorem dX8_readsNode_81 : decode cX8_readsNode 81 = .ok (.aload_n 0, 1) := by decide +kernel
theorem dX8_readsNode_82 : decode cX8_readsNode 82 = .ok (.getfield 84, 3) := by decide +kernel
theorem dX8_readsNode_85 : decode cX8_readsNode 85 = .ok (.iload 4, 2) := by decide +kernel
theorem dX8_readsNode_87 : decode cX8_readsNode 87 = .ok (.iconst 1, 1) := by decide +kernel
theorem dX8_readsNode_88 : decode cX8_readsNode 88 = .ok (.iadd, 1) := by decide +kernel
theorem dX8_readsNode_89 : decode cX8_readsNode 89 = .ok (.iconst 0, 1) := by decide +kernel
theorem dX8_readsNode_90 : decode cX8_readsNode 90 = .ok (.iastore, 1) := by decide +kernel
theorem dX8_readsNode_91 : decode cX8_readsNode 91 = .ok (.aload_n 0, 1) := by decide +kernel
theorem dX8_readsNode_92 : decode cX8_readsNode 92 = .ok (.getfield 84, 3) := by decide +kernel
theorem dX8_readsNode_95 : decode cX8_readsNode 95 = .ok (.iload 4, 2) := by decide +kernel
theorem dX8_readsNode_97 : decode cX8_readsNode 97 = .ok (.iconst 2, 1) := by decide +kernel
theorem dX8_readsNode_98 : decode cX8_readsNode 98 = .ok (.iadd, 1) := by decide +kernel
theorem dX8_readsNode_99 : decode cX8_readsNode 99 = .ok (.iconst 0, 1) := by decide +kernel
theorem dX8_readsNode_100 : decode cX8_readsNode 100 = .ok (.iastore, 1) := by decide +kernel
theorem dX8_readsNode_101 : decode cX8_readsNode 101 = .ok (.aload_n 0, 1) := by decide +kernel
theorem dX8_readsNode_102 : decode cX8_readsNode 102 = .ok (.getfield 84, 3) := by decide +kernel
theorem dX8_readsNode_105 : decode cX8_readsNode 105 = .ok (.iload 4, 2) := by decide +kernel
theorem dX8_readsNode_107 : decode cX8_readsNode 107 = .ok (.iconst 3, 1) := by decide +kernel
theorem dX8_readsNode_108 : decode cX8_readsNode 108 = .ok (.iadd, 1) := by decide +kernel
theorem dX8_readsNode_109 : decode cX8_readsNode 109 = .ok (.iload_n 1, 1) := by decide +kernel
theorem dX8_readsNode_110 : decode cX8_readsNode 110 = .ok (.iastore, 1) := by decide +kernel
theorem dX8_readsNode_111 : decode cX8_readsNode 111 = .ok (.aload_n 0, 1) := by decide +kernel
theorem dX8_readsNode_112 : decode cX8_readsNode 112 = .ok (.getfield 84, 3) := by decide +kernel
theorem dX8_readsNode_115 : decode cX8_readsNode 115 = .ok (.iload 4, 2) := by decide +kernel
theorem dX8_readsNode_117 : decode cX8_readsNode 117 = .ok (.iconst 4, 1) := by decide +kernel
theorem dX8_readsNode_118 : decode cX8_readsNode 118 = .ok (.iadd, 1) := by decide +kernel
theorem dX8_readsNode_119 : decode cX8_readsNode 119 = .ok (.iload_n 2, 1) := by decide +kernel
theorem dX8_readsNode_120 : decode cX8_readsNode 120 = .ok (.iastore, 1) := by decide +kernel
theorem dX8_readsNode_121 : decode cX8_readsNode 121 = .ok (.aload_n 0, 1) := by decide +kernel
theorem dX8_readsNode_122 : decode cX8_readsNode 122 = .ok (.getfield 84, 3) := by decide +kernel
theorem dX8_readsNode_125 : decode cX8_readsNode 125 = .ok (.iload 4, 2) := by decide +kernel
theorem dX8_readsNode_127 : decode cX8_readsNode 127 = .ok (.iconst 5, 1) := by decide +kernel
theorem dX8_readsNode_128 : decode cX8_readsNode 128 = .ok (.iadd, 1) := by decide +kernel
theorem dX8_readsNode_129 : decode cX8_readsNode 129 = .ok (.iload_n 3, 1) := by decide +kernel
theorem dX8_readsNode_130 : decode cX8_readsNode 130 = .ok (.iastore, 1) := by decide +kernel
theorem dX8_readsNode_131 : decode cX8_readsNode 131 = .ok (.aload_n 0, 1) := by decide +kernel
theorem dX8_readsNode_132 : decode cX8_readsNode 132 = .ok (.dup, 1) := by decide +kernel
theorem dX8_readsNode_133 : decode cX8_readsNode 133 = .ok (.getfield 223, 3) := by decide +kernel
theorem dX8_readsNode_136 : decode cX8_readsNode 136 = .ok (.iconst 1, 1) := by decide +kernel
theorem dX8_readsNode_137 : decode cX8_readsNode 137 = .ok (.iadd, 1) := by decide +kernel
theorem dX8_readsNode_138 : decode cX8_readsNode 138 = .ok (.putfield 223, 3) := by decide +kernel
theorem dX8_readsNode_141 : decode cX8_readsNode 141 = .ok (.aload_n 0, 1) := by decide +kernel
theorem dX8_readsNode_142 : decode cX8_readsNode 142 = .ok (.invokevirtual 232, 3) := by decide +kernel
theorem dX8_readsNode_145 : decode cX8_readsNode 145 = .ok (.bipush 61, 2) := by decide +kernel
theorem dX8_readsNode_147 : decode cX8_readsNode 147 = .ok (.if_icmp .ne 7, 3) := by decide +kernel
theorem dX8_readsNode_150 : decode cX8_readsNode 150 = .ok (.iconst 1, 1) := by decide +kernel
theorem dX8_readsNode_151 : decode cX8_readsNode 151 = .ok (.goto 30, 3) := by decide +kernel
theorem dX8_readsNode_154 : decode cX8_readsNode 154 = .ok (.aload_n 0, 1) := by decide +kernel
theorem dX8_readsNode_155 : decode cX8_readsNode 155 = .ok (.invokevirtual 232, 3) := by decide +kernel
theorem dX8_readsNode_158 : decode cX8_readsNode 158 = .ok (.bipush 60, 2) := by decide +kernel
theorem dX8_readsNode_160 : decode cX8_readsNode 160 = .ok (.if_icmp .ne 7, 3) := by decide +kernel
theorem dX8_readsNode_163 : decode cX8_readsNode 163 = .ok (.iconst 2, 1) := by decide +kernel
theorem dX8_readsNode_164 : decode cX8_readsNode 164 = .ok (.goto 17, 3) := by decide +kernel
theorem dX8_readsNode_167 : decode cX8_readsNode 167 = .ok (.aload_n 0, 1) := by decide +kernel
theorem dX8_readsNode_168 : decode cX8_readsNode 168 = .ok (.invokevirtual 232, 3) := by decide +kernel
theorem dX8_readsNode_171 : decode cX8_readsNode 171 = .ok (.bipush 62, 2) := by decide +kernel
theorem dX8_readsNode_173 : decode cX8_readsNode 173 = .ok (.if_icmp .ne 7, 3) := by decide +kernel
theorem dX8_readsNode_176 : decode cX8_readsNode 176 = .ok (.iconst 3, 1) := by decide +kernel
theorem dX8_readsNode_177 : decode cX8_readsNode 177 = .ok (.goto 4, 3) := by decide +kernel
theorem dX8_readsNode_180 : decode cX8_readsNode 180 = .ok (.iconst 0, 1) := by decide +kernel
theorem dX8_readsNode_181 : decode cX8_readsNode 181 = .ok (.istore 5, 2) := by decide +kernel
theorem dX8_readsNode_183 : decode cX8_readsNode 183 = .ok (.iload 5, 2) := by decide +kernel
theorem dX8_readsNode_185 : decode cX8_readsNode 185 = .ok (.ifCond .le 70, 3) := by decide +kernel
theorem dX8_readsNode_188 : decode cX8_readsNode 188 = .ok (.aload_n 0, 1) := by decide +kernel
theorem dX8_readsNode_189 : decode cX8_readsNode 189 = .ok (.dup, 1) := by decide +kernel
theorem dX8_readsNode_190 : decode cX8_readsNode 190 = .ok (.getfield 223, 3) := by decide +kernel
theorem dX8_readsNode_193 : decode cX8_readsNode 193 = .ok (.iconst 1, 1) := by decide +kernel
theorem dX8_readsNode_194 : decode cX8_readsNode 194 = .ok (.iadd, 1) := by decide +kernel
theorem dX8_readsNode_195 : decode cX8_readsNode 195 = .ok (.putfield 223, 3) := by decide +kernel
theorem dX8_readsNode_198 : decode cX8_readsNode 198 = .ok (.aload_n 0, 1) := by decide +kernel
theorem dX8_readsNode_199 : decode cX8_readsNode 199 = .ok (.invokevirtual 232, 3) := by decide +kernel
theorem dX8_readsNode_202 : decode cX8_readsNode 202 = .ok (.bipush 48, 2) := by decide +kernel
theorem dX8_readsNode_204 : decode cX8_readsNode 204 = .ok (.bipush 57, 2) := by decide +kernel
theorem dX8_readsNode_206 : decode cX8_readsNode 206 = .ok (.invokestatic 90, 3) := by decide +kernel
theorem dX8_readsNode_209 : decode cX8_readsNode 209 = .ok (.ifCond .ne 9, 3) := by decide +kernel
theorem dX8_readsNode_212 : decode cX8_readsNode 212 = .ok (.aload_n 0, 1) := by decide +kernel
theorem dX8_readsNode_213 : decode cX8_readsNode 213 = .ok (.iconst 1, 1) := by decide +kernel
theorem dX8_readsNode_214 : decode cX8_readsNode 214 = .ok (.invokevirtual 235, 3) := by decide +kernel
theorem dX8_readsNode_217 : decode cX8_readsNode 217 = .ok (.ireturn, 1) := by decide +kernel
theorem dX8_readsNode_218 : decode cX8_readsNode 218 = .ok (.aload_n 0, 1) := by decide +kernel
theorem dX8_readsNode_219 : decode cX8_readsNode 219 = .ok (.getfield 84, 3) := by decide +kernel
theorem dX8_readsNode_222 : decode cX8_readsNode 222 = .ok (.iload 4, 2) := by decide +kernel
theorem dX8_readsNode_224 : decode cX8_readsNode 224 = .ok (.iconst 1, 1) := by decide +kernel
theorem dX8_readsNode_225 : decode cX8_readsNode 225 = .ok (.iadd, 1) := by decide +kernel
theorem dX8_readsNode_226 : decode cX8_readsNode 226 = .ok (.iload 5, 2) := by decide +kernel
theorem dX8_readsNode_228 : decode cX8_readsNode 228 = .ok (.iastore, 1) := by decide +kernel
theorem dX8_readsNode_229 : decode cX8_readsNode 229 = .ok (.aload_n 0, 1) := by decide +kernel
theorem dX8_readsNode_230 : decode cX8_readsNode 230 = .ok (.getfield 84, 3) := by decide +kernel
theorem dX8_readsNode_233 : decode cX8_readsNode 233 = .ok (.iload 4, 2) := by decide +kernel
theorem dX8_readsNode_235 : decode cX8_readsNode 235 = .ok (.iconst 2, 1) := by decide +kernel
theorem dX8_readsNode_236 : decode cX8_readsNode 236 = .ok (.iadd, 1) := by decide +kernel
theorem dX8_readsNode_237 : decode cX8_readsNode 237 = .ok (.aload_n 0, 1) := by decide +kernel
theorem dX8_readsNode_238 : decode cX8_readsNode 238 = .ok (.invokevirtual 232, 3) := by decide +kernel
theorem dX8_readsNode_241 : decode cX8_readsNode 241 = .ok (.bipush 48, 2) := by decide +kernel
theorem dX8_readsNode_243 : decode cX8_readsNode 243 = .ok (.isub, 1) := by decide +kernel
theorem dX8_readsNode_244 : decode cX8_readsNode 244 = .ok (.iastore, 1) := by decide +kernel
theorem dX8_readsNode_245 : decode cX8_readsNode 245 = .ok (.aload_n 0, 1) := by decide +kernel
theorem dX8_readsNode_246 : decode cX8_readsNode 246 = .ok (.dup, 1) := by decide +kernel
theorem dX8_readsNode_247 : decode cX8_readsNode 247 = .ok (.getfield 223, 3) := by decide +kernel
theorem dX8_readsNode_250 : decode cX8_readsNode 250 = .ok (.iconst 1, 1) := by decide +kernel
theorem dX8_readsNode_251 : decode cX8_readsNode 251 = .ok (.iadd, 1) := by decide +kernel
theorem dX8_readsNode_252 : decode cX8_readsNode 252 = .ok (.putfield 223, 3) := by decide +kernel
theorem dX8_readsNode_255 : decode cX8_readsNode 255 = .ok (.aload_n 0, 1) := by decide +kernel
theorem dX8_readsNode_256 : decode cX8_readsNode 256 = .ok (.dup, 1) := by decide +kernel
theorem dX8_readsNode_257 : decode cX8_readsNode 257 = .ok (.getfield 248, 3) := by decide +kernel
theorem dX8_readsNode_260 : decode cX8_readsNode 260 = .ok (.iconst 1, 1) := by decide +kernel
theorem dX8_readsNode_261 : decode cX8_readsNode 261 = .ok (.iadd, 1) := by decide +kernel
theorem dX8_readsNode_262 : decode cX8_readsNode 262 = .ok (.putfield 248, 3) := by decide +kernel
theorem dX8_readsNode_265 : decode cX8_readsNode 265 = .ok (.iconst 1, 1) := by decide +kernel
theorem dX8_readsNode_266 : decode cX8_readsNode 266 = .ok (.ireturn, 1) := by decide +kernel
set_option maxHeartbeats 4000000 in
set_option maxRecDepth 100000 in
theorem c_X8_readsNode (l : Launch) (B : Nat) (D : va_G) (cA : Nat → ClassId) (m : Mm) (x0 : Nat) (x1 : Int32) (x2 : Int32) (x3 : Int32) (rZ : Int32) (mZ : Mm) (hf : f_X8_readsNode m x0 x1 x2 x3 = some (rZ, mZ)) : Mt l B D cA yX8_readsNode cX8_readsNode 6 (some .boolean) 1 22 0 0 [.ref (B + x0), .int x1, .int x2, .int x3] m (some (.int rZ)) mZ := by
  refine r_start (by decide) (Nat.le_of_ble_eq_true rfl) ?_
  intro p e s mt args below meth c ls H locs X hr hlocks hnm hR hl hS
  have hx := X.1
  have hb := X.2.1
  have hl : lv_has ls 6 [(0, .ref (B + x0)), (1, .int x1), (2, .int x2), (3, .int x3)] := hl
  unfold f_X8_readsNode at hf
  refine lv_aload_n hx hb dX8_readsNode_0 rfl (lv_at hl 0 rfl) ?_
  obtain ⟨o1, h2, hf⟩ := obO hf
  obtain ⟨v4, g3, hf⟩ := ob hf
  refine r_callV X kw_X8_232 (ci := 8) rfl (c_X8_here l B D cA m x0 v4 g3) ⟨Nat.le_of_ble_eq_true rfl, Nat.le_of_ble_eq_true rfl⟩ h2 hR hS hl.1 rfl rfl (Nat.le_of_ble_eq_true rfl) ⟨Nat.le_of_ble_eq_true rfl, Nat.le_of_ble_eq_true rfl⟩ dX8_readsNode_1 (fun H locs hR hS => ?_)
  refine W.eq (g2 := F0 mt 4 ls [.int v4]) rfl ?_
  refine lv_bipush (v := 97) hx hb dX8_readsNode_4 (by decide) ?_
  refine lv_bipush (v := 102) hx hb dX8_readsNode_6 (by decide) ?_
  obtain ⟨v6, g5, hf⟩ := ob hf
  refine r_callS X kw_X8_90 (c_X8_in l B D cA m v4 (97 : Int32) (102 : Int32) v6 g5) ⟨Nat.le_of_ble_eq_true rfl, Nat.le_of_ble_eq_true rfl⟩ hR hS hl.1 rfl rfl (Nat.le_of_ble_eq_true rfl) ⟨Nat.le_of_ble_eq_true rfl, Nat.le_of_ble_eq_true rfl⟩ dX8_readsNode_8 (fun H locs hR hS => ?_)
  refine W.eq (g2 := F0 mt 11 ls [.int v6]) rfl ?_
  have hJ29 : ∀  (H : Heap) (locs : List Loc) (ls : Array Slot), f_X8_readsNode_J29 m x0 x1 x2 x3 = some (rZ, mZ) → Rl B D cA m H → va_S (fun q => B ≤ q) s.heap H locs → lv_has ls 6 [(0, .ref (B + x0)), (1, .int x1), (2, .int x2), (3, .int x3)] → W p l e (rmm 1 0 0 22) s mt args below meth c H locs 0 0 (MQ below (mQ B D cA (some (.int rZ)) mZ) args s 0 0 (fun q => B ≤ q)) (F0 mt 29 ls []) := by
    intro  H locs ls hf hR hS hl
    unfold f_X8_readsNode_J29 at hf
    refine lv_aload_n hx hb dX8_readsNode_29 rfl (lv_at hl 0 rfl) ?_
    obtain ⟨v7, g8, hf⟩ := ob hf
    refine gI_X8_248 X hR g8 dX8_readsNode_30 ?_
    refine lv_bipush (v := 6) hx hb dX8_readsNode_33 (by decide) ?_
    refine lv_icmp_ne (tgt := 44) hx hb dX8_readsNode_35 (by decide) (fun c9 => ?_) (fun c9 => ?_)
    · rw [if_neg c9] at hf
      refine lv_bipush (v := 6) hx hb dX8_readsNode_44 (by decide) ?_
      refine lv_aload_n hx hb dX8_readsNode_46 rfl (lv_at hl 0 rfl) ?_
      obtain ⟨v10, g11, hf⟩ := ob hf
      refine gI_X8_248 X hR g11 dX8_readsNode_47 ?_
      refine lv_imul hx hb dX8_readsNode_50 ?_
      refine lv_istore (lv' := [(4, .int ((6 : Int32) * v10)), (0, .ref (B + x0)), (1, .int x1), (2, .int x2), (3, .int x3)]) hx hb dX8_readsNode_51 hl (by decide) rfl (fun ls hl => ?_)
      refine lv_aload_n hx hb dX8_readsNode_53 rfl (lv_at hl 1 rfl) ?_
      obtain ⟨v12, g13, hf⟩ := ob hf
      refine gR_X8_84 X hR g13 dX8_readsNode_54 ?_
      refine lv_iload hx hb dX8_readsNode_57 (lv_at hl 0 rfl) ?_
      refine lv_aload_n hx hb dX8_readsNode_59 rfl (lv_at hl 1 rfl) ?_
      obtain ⟨o14, h15, hf⟩ := obO hf
      obtain ⟨v17, g16, hf⟩ := ob hf
      refine r_callV X kw_X8_232 (ci := 8) rfl (c_X8_here l B D cA m x0 v17 g16) ⟨Nat.le_of_ble_eq_true rfl, Nat.le_of_ble_eq_true rfl⟩ h15 hR hS hl.1 rfl rfl (Nat.le_of_ble_eq_true rfl) ⟨Nat.le_of_ble_eq_true rfl, Nat.le_of_ble_eq_true rfl⟩ dX8_readsNode_60 (fun H locs hR hS => ?_)
      refine W.eq (g2 := F0 mt 63 ls [.int v17, .int ((6 : Int32) * v10), .ref (B + v12)]) rfl ?_
      refine lv_bipush (v := 42) hx hb dX8_readsNode_63 (by decide) ?_
      obtain ⟨t18, hjt18, hf⟩ := ob hf
      have hJt18 : ∀ (H : Heap) (locs : List Loc) (ls : Array Slot), Rl B D cA m H → va_S (fun q => B ≤ q) s.heap H locs → lv_has ls 6 [(0, .ref (B + x0)), (1, .int x1), (2, .int x2), (3, .int x3), (4, .int ((6 : Int32) * v10))] → W p l e (rmm 1 0 0 22) s mt args below meth c H locs 0 0 (MQ below (mQ B D cA (some (.int rZ)) mZ) args s 0 0 (fun q => B ≤ q)) (F0 mt 80 ls [.int t18, .int ((6 : Int32) * v10), .ref (B + v12)]) := by
        intro H locs ls hR hS hl
        obtain ⟨m24, g25, hf⟩ := ob hf
        refine r_sI X hR hS g25 dX8_readsNode_80 (fun H locs hR hS => ?_)
        refine lv_aload_n hx hb dX8_readsNode_81 rfl (lv_at hl 0 rfl) ?_
        obtain ⟨v26, g27, hf⟩ := ob hf
        refine gR_X8_84 X hR g27 dX8_readsNode_82 ?_
        refine lv_iload hx hb dX8_readsNode_85 (lv_at hl 4 rfl) ?_
        refine lv_iconst (v := 1) hx hb dX8_readsNode_87 (by decide) ?_
        refine lv_iadd hx hb dX8_readsNode_88 ?_
        refine lv_iconst (v := 0) hx hb dX8_readsNode_89 (by decide) ?_
        obtain ⟨m28, g29, hf⟩ := ob hf
        refine r_sI X hR hS g29 dX8_readsNode_90 (fun H locs hR hS => ?_)
        refine lv_aload_n hx hb dX8_readsNode_91 rfl (lv_at hl 0 rfl) ?_
        obtain ⟨v30, g31, hf⟩ := ob hf
        refine gR_X8_84 X hR g31 dX8_readsNode_92 ?_
        refine lv_iload hx hb dX8_readsNode_95 (lv_at hl 4 rfl) ?_
        refine lv_iconst (v := 2) hx hb dX8_readsNode_97 (by decide) ?_
        refine lv_iadd hx hb dX8_readsNode_98 ?_
        refine lv_iconst (v := 0) hx hb dX8_readsNode_99 (by decide) ?_
        obtain ⟨m32, g33, hf⟩ := ob hf
        refine r_sI X hR hS g33 dX8_readsNode_100 (fun H locs hR hS => ?_)
        refine lv_aload_n hx hb dX8_readsNode_101 rfl (lv_at hl 0 rfl) ?_
        obtain ⟨v34, g35, hf⟩ := ob hf
        refine gR_X8_84 X hR g35 dX8_readsNode_102 ?_
        refine lv_iload hx hb dX8_readsNode_105 (lv_at hl 4 rfl) ?_
        refine lv_iconst (v := 3) hx hb dX8_readsNode_107 (by decide) ?_
        refine lv_iadd hx hb dX8_readsNode_108 ?_
        refine lv_iload_n hx hb dX8_readsNode_109 rfl (lv_at hl 1 rfl) ?_
        obtain ⟨m36, g37, hf⟩ := ob hf
        refine r_sI X hR hS g37 dX8_readsNode_110 (fun H locs hR hS => ?_)
        refine lv_aload_n hx hb dX8_readsNode_111 rfl (lv_at hl 0 rfl) ?_
        obtain ⟨v38, g39, hf⟩ := ob hf
        refine gR_X8_84 X hR g39 dX8_readsNode_112 ?_
        refine lv_iload hx hb dX8_readsNode_115 (lv_at hl 4 rfl) ?_
        refine lv_iconst (v := 4) hx hb dX8_readsNode_117 (by decide) ?_
        refine lv_iadd hx hb dX8_readsNode_118 ?_
        refine lv_iload_n hx hb dX8_readsNode_119 rfl (lv_at hl 2 rfl) ?_
        obtain ⟨m40, g41, hf⟩ := ob hf
        refine r_sI X hR hS g41 dX8_readsNode_120 (fun H locs hR hS => ?_)
        refine lv_aload_n hx hb dX8_readsNode_121 rfl (lv_at hl 0 rfl) ?_
        obtain ⟨v42, g43, hf⟩ := ob hf
        refine gR_X8_84 X hR g43 dX8_readsNode_122 ?_
        refine lv_iload hx hb dX8_readsNode_125 (lv_at hl 4 rfl) ?_
        refine lv_iconst (v := 5) hx hb dX8_readsNode_127 (by decide) ?_
        refine lv_iadd hx hb dX8_readsNode_128 ?_
        refine lv_iload_n hx hb dX8_readsNode_129 rfl (lv_at hl 3 rfl) ?_
        obtain ⟨m44, g45, hf⟩ := ob hf
        refine r_sI X hR hS g45 dX8_readsNode_130 (fun H locs hR hS => ?_)
        refine lv_aload_n hx hb dX8_readsNode_131 rfl (lv_at hl 0 rfl) ?_
        refine lv_dup hx hb dX8_readsNode_132 rfl ?_
        obtain ⟨v46, g47, hf⟩ := ob hf
        refine gI_X8_223 X hR g47 dX8_readsNode_133 ?_
        refine lv_iconst (v := 1) hx hb dX8_readsNode_136 (by decide) ?_
        refine lv_iadd hx hb dX8_readsNode_137 ?_
        obtain ⟨m48, g49, hf⟩ := ob hf
        refine pI_X8_223 X hR hS g49 dX8_readsNode_138 (fun H locs hR hS => ?_)
        refine lv_aload_n hx hb dX8_readsNode_141 rfl (lv_at hl 0 rfl) ?_
        obtain ⟨o50, h51, hf⟩ := obO hf
        obtain ⟨v53, g52, hf⟩ := ob hf
        refine r_callV X kw_X8_232 (ci := 8) rfl (c_X8_here l B D cA m48 x0 v53 g52) ⟨Nat.le_of_ble_eq_true rfl, Nat.le_of_ble_eq_true rfl⟩ h51 hR hS hl.1 rfl rfl (Nat.le_of_ble_eq_true rfl) ⟨Nat.le_of_ble_eq_true rfl, Nat.le_of_ble_eq_true rfl⟩ dX8_readsNode_142 (fun H locs hR hS => ?_)
        refine W.eq (g2 := F0 mt 145 ls [.int v53]) rfl ?_
        refine lv_bipush (v := 61) hx hb dX8_readsNode_145 (by decide) ?_
        obtain ⟨t54, hjt54, hf⟩ := ob hf
        have hJt54 : ∀ (H : Heap) (locs : List Loc) (ls : Array Slot), Rl B D cA m48 H → va_S (fun q => B ≤ q) s.heap H locs → lv_has ls 6 [(0, .ref (B + x0)), (4, .int ((6 : Int32) * v10))] → W p l e (rmm 1 0 0 22) s mt args below meth c H locs 0 0 (MQ below (mQ B D cA (some (.int rZ)) mZ) args s 0 0 (fun q => B ≤ q)) (F0 mt 181 ls [.int t54]) := by
          intro H locs ls hR hS hl
          refine lv_istore (lv' := [(5, .int t54), (0, .ref (B + x0)), (4, .int ((6 : Int32) * v10))]) hx hb dX8_readsNode_181 hl (by decide) rfl (fun ls hl => ?_)
          refine lv_iload hx hb dX8_readsNode_183 (lv_at hl 0 rfl) ?_
          have hJ255 : ∀ (mj255 : Mm) (H : Heap) (locs : List Loc) (ls : Array Slot), f_X8_readsNode_J255 mj255 x0 = some (rZ, mZ) → Rl B D cA mj255 H → va_S (fun q => B ≤ q) s.heap H locs → lv_has ls 6 [(0, .ref (B + x0))] → W p l e (rmm 1 0 0 22) s mt args below meth c H locs 0 0 (MQ below (mQ B D cA (some (.int rZ)) mZ) args s 0 0 (fun q => B ≤ q)) (F0 mt 255 ls []) := by
            intro mj255 H locs ls hf hR hS hl
            unfold f_X8_readsNode_J255 at hf
            refine lv_aload_n hx hb dX8_readsNode_255 rfl (lv_at hl 0 rfl) ?_
            refine lv_dup hx hb dX8_readsNode_256 rfl ?_
            obtain ⟨v66, g67, hf⟩ := ob hf
            refine gI_X8_248 X hR g67 dX8_readsNode_257 ?_
            refine lv_iconst (v := 1) hx hb dX8_readsNode_260 (by decide) ?_
            refine lv_iadd hx hb dX8_readsNode_261 ?_
            obtain ⟨m68, g69, hf⟩ := ob hf
            refine pI_X8_248 X hR hS g69 dX8_readsNode_262 (fun H locs hR hS => ?_)
            refine lv_iconst (v := 1) hx hb dX8_readsNode_265 (by decide) ?_
            obtain ⟨rfl, rfl⟩ := Prod.mk.inj (Option.some.inj hf)
            exact r_iret X hr hlocks hR hS rfl dX8_readsNode_266
          refine lv_if_le (tgt := 255) hx hb dX8_readsNode_185 (by decide) (fun c70 => ?_) (fun c70 => ?_)
          · rw [if_pos c70] at hf
            exact hJ255 _  H locs ls hf hR hS (lv_sub hl [1] rfl)
          · rw [if_neg c70] at hf
            refine lv_aload_n hx hb dX8_readsNode_188 rfl (lv_at hl 1 rfl) ?_
            refine lv_dup hx hb dX8_readsNode_189 rfl ?_
            obtain ⟨v71, g72, hf⟩ := ob hf
            refine gI_X8_223 X hR g72 dX8_readsNode_190 ?_
            refine lv_iconst (v := 1) hx hb dX8_readsNode_193 (by decide) ?_
            refine lv_iadd hx hb dX8_readsNode_194 ?_
            obtain ⟨m73, g74, hf⟩ := ob hf
            refine pI_X8_223 X hR hS g74 dX8_readsNode_195 (fun H locs hR hS => ?_)
            refine lv_aload_n hx hb dX8_readsNode_198 rfl (lv_at hl 1 rfl) ?_
            obtain ⟨o75, h76, hf⟩ := obO hf
            obtain ⟨v78, g77, hf⟩ := ob hf
            refine r_callV X kw_X8_232 (ci := 8) rfl (c_X8_here l B D cA m73 x0 v78 g77) ⟨Nat.le_of_ble_eq_true rfl, Nat.le_of_ble_eq_true rfl⟩ h76 hR hS hl.1 rfl rfl (Nat.le_of_ble_eq_true rfl) ⟨Nat.le_of_ble_eq_true rfl, Nat.le_of_ble_eq_true rfl⟩ dX8_readsNode_199 (fun H locs hR hS => ?_)
            refine W.eq (g2 := F0 mt 202 ls [.int v78]) rfl ?_
            refine lv_bipush (v := 48) hx hb dX8_readsNode_202 (by decide) ?_
            refine lv_bipush (v := 57) hx hb dX8_readsNode_204 (by decide) ?_
            obtain ⟨v80, g79, hf⟩ := ob hf
            refine r_callS X kw_X8_90 (c_X8_in l B D cA m73 v78 (48 : Int32) (57 : Int32) v80 g79) ⟨Nat.le_of_ble_eq_true rfl, Nat.le_of_ble_eq_true rfl⟩ hR hS hl.1 rfl rfl (Nat.le_of_ble_eq_true rfl) ⟨Nat.le_of_ble_eq_true rfl, Nat.le_of_ble_eq_true rfl⟩ dX8_readsNode_206 (fun H locs hR hS => ?_)
            refine W.eq (g2 := F0 mt 209 ls [.int v80]) rfl ?_
            refine lv_if_ne (tgt := 218) hx hb dX8_readsNode_209 (by decide) (fun c81 => ?_) (fun c81 => ?_)
            · rw [if_neg c81] at hf
              refine lv_aload_n hx hb dX8_readsNode_218 rfl (lv_at hl 1 rfl) ?_
              obtain ⟨v82, g83, hf⟩ := ob hf
              refine gR_X8_84 X hR g83 dX8_readsNode_219 ?_
              refine lv_iload hx hb dX8_readsNode_222 (lv_at hl 2 rfl) ?_
              refine lv_iconst (v := 1) hx hb dX8_readsNode_224 (by decide) ?_
              refine lv_iadd hx hb dX8_readsNode_225 ?_
              refine lv_iload hx hb dX8_readsNode_226 (lv_at hl 0 rfl) ?_
              obtain ⟨m84, g85, hf⟩ := ob hf
              refine r_sI X hR hS g85 dX8_readsNode_228 (fun H locs hR hS => ?_)
              refine lv_aload_n hx hb dX8_readsNode_229 rfl (lv_at hl 1 rfl) ?_
              obtain ⟨v86, g87, hf⟩ := ob hf
              refine gR_X8_84 X hR g87 dX8_readsNode_230 ?_
              refine lv_iload hx hb dX8_readsNode_233 (lv_at hl 2 rfl) ?_
              refine lv_iconst (v := 2) hx hb dX8_readsNode_235 (by decide) ?_
              refine lv_iadd hx hb dX8_readsNode_236 ?_
              refine lv_aload_n hx hb dX8_readsNode_237 rfl (lv_at hl 1 rfl) ?_
              obtain ⟨o88, h89, hf⟩ := obO hf
              obtain ⟨v91, g90, hf⟩ := ob hf
              refine r_callV X kw_X8_232 (ci := 8) rfl (c_X8_here l B D cA m84 x0 v91 g90) ⟨Nat.le_of_ble_eq_true rfl, Nat.le_of_ble_eq_true rfl⟩ h89 hR hS hl.1 rfl rfl (Nat.le_of_ble_eq_true rfl) ⟨Nat.le_of_ble_eq_true rfl, Nat.le_of_ble_eq_true rfl⟩ dX8_readsNode_238 (fun H locs hR hS => ?_)
              refine W.eq (g2 := F0 mt 241 ls [.int v91, .int (((6 : Int32) * v10) + (2 : Int32)), .ref (B + v86)]) rfl ?_
              refine lv_bipush (v := 48) hx hb dX8_readsNode_241 (by decide) ?_
              refine lv_isub hx hb dX8_readsNode_243 ?_
              obtain ⟨m92, g93, hf⟩ := ob hf
              refine r_sI X hR hS g93 dX8_readsNode_244 (fun H locs hR hS => ?_)
              refine lv_aload_n hx hb dX8_readsNode_245 rfl (lv_at hl 1 rfl) ?_
              refine lv_dup hx hb dX8_readsNode_246 rfl ?_
              obtain ⟨v94, g95, hf⟩ := ob hf
              refine gI_X8_223 X hR g95 dX8_readsNode_247 ?_
              refine lv_iconst (v := 1) hx hb dX8_readsNode_250 (by decide) ?_
              refine lv_iadd hx hb dX8_readsNode_251 ?_
              obtain ⟨m96, g97, hf⟩ := ob hf
              refine pI_X8_223 X hR hS g97 dX8_readsNode_252 (fun H locs hR hS => ?_)
              exact hJ255 _  H locs ls hf hR hS (lv_sub hl [1] rfl)
            · rw [if_pos c81] at hf
              refine lv_aload_n hx hb dX8_readsNode_212 rfl (lv_at hl 1 rfl) ?_
              refine lv_iconst (v := 1) hx hb dX8_readsNode_213 (by decide) ?_
              obtain ⟨o98, h99, hf⟩ := obO hf
              obtain ⟨t101, g100, hf⟩ := ob hf
              refine r_callV X kw_X8_235 (ci := 8) rfl (c_X8_wrong l B D cA m73 x0 (1 : Int32) t101.1 t101.2 g100) ⟨Nat.le_of_ble_eq_true rfl, Nat.le_of_ble_eq_true rfl⟩ h99 hR hS hl.1 rfl rfl (Nat.le_of_ble_eq_true rfl) ⟨Nat.le_of_ble_eq_true rfl, Nat.le_of_ble_eq_true rfl⟩ dX8_readsNode_214 (fun H locs hR hS => ?_)
              refine W.eq (g2 := F0 mt 217 ls [.int t101.1]) rfl ?_
              obtain ⟨h102, hf⟩ := obB hf
              obtain ⟨rfl, rfl⟩ := Prod.mk.inj (Option.some.inj hf)
              exact r_iret X hr hlocks hR hS h102 dX8_readsNode_217
        have hf := hjt54
        clear hjt54
        refine lv_icmp_ne (tgt := 154) hx hb dX8_readsNode_147 (by decide) (fun c55 => ?_) (fun c55 => ?_)
        · rw [if_neg c55] at hf
          refine lv_aload_n hx hb dX8_readsNode_154 rfl (lv_at hl 0 rfl) ?_
          obtain ⟨o56, h57, hf⟩ := obO hf
          obtain ⟨v59, g58, hf⟩ := ob hf
          refine r_callV X kw_X8_232 (ci := 8) rfl (c_X8_here l B D cA m48 x0 v59 g58) ⟨Nat.le_of_ble_eq_true rfl, Nat.le_of_ble_eq_true rfl⟩ h57 hR hS hl.1 rfl rfl (Nat.le_of_ble_eq_true rfl) ⟨Nat.le_of_ble_eq_true rfl, Nat.le_of_ble_eq_true rfl⟩ dX8_readsNode_155 (fun H locs hR hS => ?_)
          refine W.eq (g2 := F0 mt 158 ls [.int v59]) rfl ?_
          refine lv_bipush (v := 60) hx hb dX8_readsNode_158 (by decide) ?_
          refine lv_icmp_ne (tgt := 167) hx hb dX8_readsNode_160 (by decide) (fun c60 => ?_) (fun c60 => ?_)
          · rw [if_neg c60] at hf
            refine lv_aload_n hx hb dX8_readsNode_167 rfl (lv_at hl 0 rfl) ?_
            obtain ⟨o61, h62, hf⟩ := obO hf
            obtain ⟨v64, g63, hf⟩ := ob hf
            refine r_callV X kw_X8_232 (ci := 8) rfl (c_X8_here l B D cA m48 x0 v64 g63) ⟨Nat.le_of_ble_eq_true rfl, Nat.le_of_ble_eq_true rfl⟩ h62 hR hS hl.1 rfl rfl (Nat.le_of_ble_eq_true rfl) ⟨Nat.le_of_ble_eq_true rfl, Nat.le_of_ble_eq_true rfl⟩ dX8_readsNode_168 (fun H locs hR hS => ?_)
            refine W.eq (g2 := F0 mt 171 ls [.int v64]) rfl ?_
            refine lv_bipush (v := 62) hx hb dX8_readsNode_171 (by decide) ?_
            refine lv_icmp_ne (tgt := 180) hx hb dX8_readsNode_173 (by decide) (fun c65 => ?_) (fun c65 => ?_)
            · rw [if_neg c65] at hf
              refine lv_iconst (v := 0) hx hb dX8_readsNode_180 (by decide) ?_
              obtain rfl := Option.some.inj hf
              exact hJt54 H locs ls hR hS (lv_sub hl [0, 4] rfl)
            · rw [if_pos c65] at hf
              refine lv_iconst (v := 3) hx hb dX8_readsNode_176 (by decide) ?_
              refine lv_goto (tgt := 181) hx hb dX8_readsNode_177 (by decide) ?_
              obtain rfl := Option.some.inj hf
              exact hJt54 H locs ls hR hS (lv_sub hl [0, 4] rfl)
          · rw [if_pos c60] at hf
            refine lv_iconst (v := 2) hx hb dX8_readsNode_163 (by decide) ?_
            refine lv_goto (tgt := 181) hx hb dX8_readsNode_164 (by decide) ?_
            obtain rfl := Option.some.inj hf
            exact hJt54 H locs ls hR hS (lv_sub hl [0, 4] rfl)
        · rw [if_pos c55] at hf
          refine lv_iconst (v := 1) hx hb dX8_readsNode_150 (by decide) ?_
          refine lv_goto (tgt := 181) hx hb dX8_readsNode_151 (by decide) ?_
          obtain rfl := Option.some.inj hf
          exact hJt54 H locs ls hR hS (lv_sub hl [0, 4] rfl)
      have hf := hjt18
      clear hjt18
      refine lv_icmp_ne (tgt := 73) hx hb dX8_readsNode_65 (by decide) (fun c19 => ?_) (fun c19 => ?_)
      · rw [if_neg c19] at hf
        refine lv_aload_n hx hb dX8_readsNode_73 rfl (lv_at hl 1 rfl) ?_
        obtain ⟨o20, h21, hf⟩ := obO hf
        obtain ⟨v23, g22, hf⟩ := ob hf
        refine r_callV X kw_X8_232 (ci := 8) rfl (c_X8_here l B D cA m x0 v23 g22) ⟨Nat.le_of_ble_eq_true rfl, Nat.le_of_ble_eq_true rfl⟩ h21 hR hS hl.1 rfl rfl (Nat.le_of_ble_eq_true rfl) ⟨Nat.le_of_ble_eq_true rfl, Nat.le_of_ble_eq_true rfl⟩ dX8_readsNode_74 (fun H locs hR hS => ?_)
        refine W.eq (g2 := F0 mt 77 ls [.int v23, .int ((6 : Int32) * v10), .ref (B + v12)]) rfl ?_
        refine lv_bipush (v := 97) hx hb dX8_readsNode_77 (by decide) ?_
        refine lv_isub hx hb dX8_readsNode_79 ?_
        obtain rfl := Option.some.inj hf
        exact hJt18 H locs ls hR hS (lv_sub hl [1, 2, 3, 4, 0] rfl)
      · rw [if_pos c19] at hf
        refine lv_bipush (v := 6) hx hb dX8_readsNode_68 (by decide) ?_
        refine lv_goto (tgt := 80) hx hb dX8_readsNode_70 (by decide) ?_
        obtain rfl := Option.some.inj hf
        exact hJt18 H locs ls hR hS (lv_sub hl [1, 2, 3, 4, 0] rfl)
    · rw [if_pos c9] at hf
      refine lv_aload_n hx hb dX8_readsNode_38 rfl (lv_at hl 0 rfl) ?_
      refine lv_iconst (v := 2) hx hb dX8_readsNode_39 (by decide) ?_
      obtain ⟨o103, h104, hf⟩ := obO hf
      obtain ⟨t106, g105, hf⟩ := ob hf
      refine r_callV X kw_X8_235 (ci := 8) rfl (c_X8_wrong l B D cA m x0 (2 : Int32) t106.1 t106.2 g105) ⟨Nat.le_of_ble_eq_true rfl, Nat.le_of_ble_eq_true rfl⟩ h104 hR hS hl.1 rfl rfl (Nat.le_of_ble_eq_true rfl) ⟨Nat.le_of_ble_eq_true rfl, Nat.le_of_ble_eq_true rfl⟩ dX8_readsNode_40 (fun H locs hR hS => ?_)
      refine W.eq (g2 := F0 mt 43 ls [.int t106.1]) rfl ?_
      obtain ⟨h107, hf⟩ := obB hf
      obtain ⟨rfl, rfl⟩ := Prod.mk.inj (Option.some.inj hf)
      exact r_iret X hr hlocks hR hS h107 dX8_readsNode_43
  refine lv_if_ne (tgt := 29) hx hb dX8_readsNode_11 (by decide) (fun c108 => ?_) (fun c108 => ?_)
  · rw [if_neg c108] at hf
    exact hJ29  H locs ls hf hR hS (lv_sub hl [0, 1, 2, 3] rfl)
  · rw [if_pos c108] at hf
    refine lv_aload_n hx hb dX8_readsNode_14 rfl (lv_at hl 0 rfl) ?_
    obtain ⟨o109, h110, hf⟩ := obO hf
    obtain ⟨v112, g111, hf⟩ := ob hf
    refine r_callV X kw_X8_232 (ci := 8) rfl (c_X8_here l B D cA m x0 v112 g111) ⟨Nat.le_of_ble_eq_true rfl, Nat.le_of_ble_eq_true rfl⟩ h110 hR hS hl.1 rfl rfl (Nat.le_of_ble_eq_true rfl) ⟨Nat.le_of_ble_eq_true rfl, Nat.le_of_ble_eq_true rfl⟩ dX8_readsNode_15 (fun H locs hR hS => ?_)
    refine W.eq (g2 := F0 mt 18 ls [.int v112]) rfl ?_
    refine lv_bipush (v := 42) hx hb dX8_readsNode_18 (by decide) ?_
    refine lv_icmp_eq (tgt := 29) hx hb dX8_readsNode_20 (by decide) (fun c113 => ?_) (fun c113 => ?_)
    · rw [if_pos c113] at hf
      exact hJ29  H locs ls hf hR hS (lv_sub hl [0, 1, 2, 3] rfl)
    · rw [if_neg c113] at hf
      refine lv_aload_n hx hb dX8_readsNode_23 rfl (lv_at hl 0 rfl) ?_
      refine lv_iconst (v := 1) hx hb dX8_readsNode_24 (by decide) ?_
      obtain ⟨o114, h115, hf⟩ := obO hf
      obtain ⟨t117, g116, hf⟩ := ob hf
      refine r_callV X kw_X8_235 (ci := 8) rfl (c_X8_wrong l B D cA m x0 (1 : Int32) t117.1 t117.2 g116) ⟨Nat.le_of_ble_eq_true rfl, Nat.le_of_ble_eq_true rfl⟩ h115 hR hS hl.1 rfl rfl (Nat.le_of_ble_eq_true rfl) ⟨Nat.le_of_ble_eq_true rfl, Nat.le_of_ble_eq_true rfl⟩ dX8_readsNode_25 (fun H locs hR hS => ?_)
      refine W.eq (g2 := F0 mt 28 ls [.int t117.1]) rfl ?_
      obtain ⟨h118, hf⟩ := obB hf
      obtain ⟨rfl, rfl⟩ := Prod.mk.inj (Option.some.inj hf)
      exact r_iret X hr hlocks hR hS h118 dX8_readsNode_28
/-! ===== TwigMatchesModel.readsBranch(IZ)Z ===== -/
theorem dX8_readsBranch_0 : decode cX8_readsBranch 0 = .ok (.iconst 0, 1) := by decide +kernel
theorem dX8_readsBranch_1 : decode cX8_readsBranch 1 = .ok (.istore_n 3, 1) := by decide +kernel
theorem dX8_readsBranch_2 : decode cX8_readsBranch 2 = .ok (.iload_n 2, 1) := by decide +kernel
theorem dX8_readsBranch_3 : decode cX8_readsBranch 3 = .ok (.ifCond .ne 24, 3) := by decide +kernel
theorem dX8_readsBranch_6 : decode cX8_readsBranch 6 = .ok (.aload_n 0, 1) := by decide +kernel
theorem dX8_readsBranch_7 : decode cX8_readsBranch 7 = .ok (.invokevirtual 232, 3) := by decide +kernel
theorem dX8_readsBranch_10 : decode cX8_readsBranch 10 = .ok (.bipush 59, 2) := by decide +kernel
theorem dX8_readsBranch_12 : decode cX8_readsBranch 12 = .ok (.if_icmp .ne 15, 3) := by decide +kernel
theorem dX8_readsBranch_15 : decode cX8_readsBranch 15 = .ok (.iconst 1, 1) := by decide +kernel
theorem dX8_readsBranch_16 : decode cX8_readsBranch 16 = .ok (.istore_n 3, 1) := by decide +kernel
theorem dX8_readsBranch_17 : decode cX8_readsBranch 17 = .ok (.aload_n 0, 1) := by decide +kernel
theorem dX8_readsBranch_18 : decode cX8_readsBranch 18 = .ok (.dup, 1) := by decide +kernel
theorem dX8_readsBranch_19 : decode cX8_readsBranch 19 = .ok (.getfield 223, 3) := by decide +kernel
theorem dX8_readsBranch_22 : decode cX8_readsBranch 22 = .ok (.iconst 1, 1) := by decide +kernel
theorem dX8_readsBranch_23 : decode cX8_readsBranch 23 = .ok (.iadd, 1) := by decide +kernel
theorem dX8_readsBranch_24 : decode cX8_readsBranch 24 = .ok (.putfield 223, 3) := by decide +kernel
theorem dX8_readsBranch_27 : decode cX8_readsBranch 27 = .ok (.aload_n 0, 1) := by decide +kernel
theorem dX8_readsBranch_28 : decode cX8_readsBranch 28 = .ok (.invokevirtual 232, 3) := by decide +kernel
theorem dX8_readsBranch_31 : decode cX8_readsBranch 31 = .ok (.bipush 47, 2) := by decide +kernel
theorem dX8_readsBranch_33 : decode cX8_readsBranch 33 = .ok (.if_icmp .eq 18, 3) := by decide +kernel
theorem dX8_readsBranch_36 : decode cX8_readsBranch 36 = .ok (.aload_n 0, 1) := by decide +kernel
theorem dX8_readsBranch_37 : decode cX8_readsBranch 37 = .ok (.invokevirtual 232, 3) := by decide +kernel
theorem dX8_readsBranch_40 : decode cX8_readsBranch 40 = .ok (.bipush 126, 2) := by decide +kernel
theorem dX8_readsBranch_42 : decode cX8_readsBranch 42 = .ok (.if_icmp .eq 9, 3) := by decide +kernel
theorem dX8_readsBranch_45 : decode cX8_readsBranch 45 = .ok (.aload_n 0, 1) := by decide +kernel
theorem dX8_readsBranch_46 : decode cX8_readsBranch 46 = .ok (.iconst 1, 1) := by decide +kernel
theorem dX8_readsBranch_47 : decode cX8_readsBranch 47 = .ok (.invokevirtual 235, 3) := by decide +kernel
theorem dX8_readsBranch_50 : decode cX8_readsBranch 50 = .ok (.ireturn, 1) := by decide +kernel
theorem dX8_readsBranch_51 : decode cX8_readsBranch 51 = .ok (.aload_n 0, 1) := by decide +kernel
theorem dX8_readsBranch_52 : decode cX8_readsBranch 52 = .ok (.invokevirtual 232, 3) := by decide +kernel
theorem dX8_readsBranch_55 : decode cX8_readsBranch 55 = .ok (.bipush 47, 2) := by decide +kernel
theorem dX8_readsBranch_57 : decode cX8_readsBranch 57 = .ok (.if_icmp .ne 7, 3) := by decide +kernel
theorem dX8_readsBranch_60 : decode cX8_readsBranch 60 = .ok (.iconst 1, 1) := by decide +kernel
theorem dX8_readsBranch_61 : decode cX8_readsBranch 61 = .ok (.goto 4, 3) := by decide +kernel
theorem dX8_readsBranch_64 : decode cX8_readsBranch 64 = .ok (.iconst 2, 1) := by decide +kernel
theorem dX8_readsBranch_65 : decode cX8_readsBranch 65 = .ok (.istore 4, 2) := by decide +kernel
theorem dX8_readsBranch_67 : decode cX8_readsBranch 67 = .ok (.aload_n 0, 1) := by decide +kernel
theorem dX8_readsBranch_68 : decode cX8_readsBranch 68 = .ok (.dup, 1) := by decide +kernel
theorem dX8_readsBranch_69 : decode cX8_readsBranch 69 = .ok (.getfield 223, 3) := by decide +kernel
theorem dX8_readsBranch_72 : decode cX8_readsBranch 72 = .ok (.iconst 1, 1) := by decide +kernel
theorem dX8_readsBranch_73 : decode cX8_readsBranch 73 = .ok (.iadd, 1) := by decide +kernel
theorem dX8_readsBranch_74 : decode cX8_readsBranch 74 = .ok (.putfield 223, 3) := by decide +kernel
theorem dX8_readsBranch_77 : decode cX8_readsBranch 77 = .ok (.aload_n 0, 1) := by decide +kernel
theorem dX8_readsBranch_78 : decode cX8_readsBranch 78 = .ok (.iload 4, 2) := by decide +kernel
theorem dX8_readsBranch_80 : decode cX8_readsBranch 80 = .ok (.iload_n 3, 1) := by decide +kernel
theorem dX8_readsBranch_81 : decode cX8_readsBranch 81 = .ok (.iload_n 1, 1) := by decide +kernel
theorem dX8_readsBranch_82 : decode cX8_readsBranch 82 = .ok (.invokevirtual 251, 3) := by decide +kernel
theorem dX8_readsBranch_85 : decode cX8_readsBranch 85 = .ok (.ireturn, 1) := by decide +kernel
set_option maxHeartbeats 4000000 in
set_option maxRecDepth 100000 in
theorem c_X8_readsBranch (l : Launch) (B : Nat) (D : va_G) (cA : Nat → ClassId) (m : Mm) (x0 : Nat) (x1 : Int32) (x2 : Int32) (rZ : Int32) (mZ : Mm) (hf : f_X8_readsBranch m x0 x1 x2 = some (rZ, mZ)) : Mt l B D cA yX8_readsBranch cX8_readsBranch 5 (some .boolean) 2 47 0 0 [.ref (B + x0), .int x1, .int x2] m (some (.int rZ)) mZ := by
  refine r_start (by decide) (Nat.le_of_ble_eq_true rfl) ?_
  intro p e s mt args below meth c ls H locs X hr hlocks hnm hR hl hS
  have hx := X.1
  have hb := X.2.1
  have hl : lv_has ls 5 [(0, .ref (B + x0)), (1, .int x1), (2, .int x2)] := hl
  unfold f_X8_readsBranch at hf
  refine lv_iconst (v := 0) hx hb dX8_readsBranch_0 (by decide) ?_
  refine lv_istore_n (lv' := [(3, .int (0 : Int32)), (0, .ref (B + x0)), (1, .int x1), (2, .int x2)]) hx hb dX8_readsBranch_1 rfl hl (by decide) rfl (fun ls hl => ?_)
  refine lv_iload_n hx hb dX8_readsBranch_2 rfl (lv_at hl 3 rfl) ?_
  obtain ⟨t1, hjt1, hf⟩ := ob hf
  have hJt1 : ∀ (H : Heap) (locs : List Loc) (ls : Array Slot), Rl B D cA t1.2 H → va_S (fun q => B ≤ q) s.heap H locs → lv_has ls 5 [(0, .ref (B + x0)), (1, .int x1), (3, .int t1.1)] → W p l e (rmm 2 0 0 47) s mt args below meth c H locs 0 0 (MQ below (mQ B D cA (some (.int rZ)) mZ) args s 0 0 (fun q => B ≤ q)) (F0 mt 27 ls []) := by
    intro H locs ls hR hS hl
    refine lv_aload_n hx hb dX8_readsBranch_27 rfl (lv_at hl 0 rfl) ?_
    obtain ⟨o12, h13, hf⟩ := obO hf
    obtain ⟨v15, g14, hf⟩ := ob hf
    refine r_callV X kw_X8_232 (ci := 8) rfl (c_X8_here l B D cA t1.2 x0 v15 g14) ⟨Nat.le_of_ble_eq_true rfl, Nat.le_of_ble_eq_true rfl⟩ h13 hR hS hl.1 rfl rfl (Nat.le_of_ble_eq_true rfl) ⟨Nat.le_of_ble_eq_true rfl, Nat.le_of_ble_eq_true rfl⟩ dX8_readsBranch_28 (fun H locs hR hS => ?_)
    refine W.eq (g2 := F0 mt 31 ls [.int v15]) rfl ?_
    refine lv_bipush (v := 47) hx hb dX8_readsBranch_31 (by decide) ?_
    have hJ51 : ∀  (H : Heap) (locs : List Loc) (ls : Array Slot), f_X8_readsBranch_J51 t1.2 x0 x1 t1.1 = some (rZ, mZ) → Rl B D cA t1.2 H → va_S (fun q => B ≤ q) s.heap H locs → lv_has ls 5 [(0, .ref (B + x0)), (1, .int x1), (3, .int t1.1)] → W p l e (rmm 2 0 0 47) s mt args below meth c H locs 0 0 (MQ below (mQ B D cA (some (.int rZ)) mZ) args s 0 0 (fun q => B ≤ q)) (F0 mt 51 ls []) := by
      intro  H locs ls hf hR hS hl
      unfold f_X8_readsBranch_J51 at hf
      refine lv_aload_n hx hb dX8_readsBranch_51 rfl (lv_at hl 0 rfl) ?_
      obtain ⟨o16, h17, hf⟩ := obO hf
      obtain ⟨v19, g18, hf⟩ := ob hf
      refine r_callV X kw_X8_232 (ci := 8) rfl (c_X8_here l B D cA t1.2 x0 v19 g18) ⟨Nat.le_of_ble_eq_true rfl, Nat.le_of_ble_eq_true rfl⟩ h17 hR hS hl.1 rfl rfl (Nat.le_of_ble_eq_true rfl) ⟨Nat.le_of_ble_eq_true rfl, Nat.le_of_ble_eq_true rfl⟩ dX8_readsBranch_52 (fun H locs hR hS => ?_)
      refine W.eq (g2 := F0 mt 55 ls [.int v19]) rfl ?_
      refine lv_bipush (v := 47) hx hb dX8_readsBranch_55 (by decide) ?_
      obtain ⟨t20, hjt20, hf⟩ := ob hf
      have hJt20 : ∀ (H : Heap) (locs : List Loc) (ls : Array Slot), Rl B D cA t1.2 H → va_S (fun q => B ≤ q) s.heap H locs → lv_has ls 5 [(0, .ref (B + x0)), (1, .int x1), (3, .int t1.1)] → W p l e (rmm 2 0 0 47) s mt args below meth c H locs 0 0 (MQ below (mQ B D cA (some (.int rZ)) mZ) args s 0 0 (fun q => B ≤ q)) (F0 mt 65 ls [.int t20]) := by
        intro H locs ls hR hS hl
        refine lv_istore (lv' := [(4, .int t20), (0, .ref (B + x0)), (1, .int x1), (3, .int t1.1)]) hx hb dX8_readsBranch_65 hl (by decide) rfl (fun ls hl => ?_)
        refine lv_aload_n hx hb dX8_readsBranch_67 rfl (lv_at hl 1 rfl) ?_
        refine lv_dup hx hb dX8_readsBranch_68 rfl ?_
        obtain ⟨v22, g23, hf⟩ := ob hf
        refine gI_X8_223 X hR g23 dX8_readsBranch_69 ?_
        refine lv_iconst (v := 1) hx hb dX8_readsBranch_72 (by decide) ?_
        refine lv_iadd hx hb dX8_readsBranch_73 ?_
        obtain ⟨m24, g25, hf⟩ := ob hf
        refine pI_X8_223 X hR hS g25 dX8_readsBranch_74 (fun H locs hR hS => ?_)
        refine lv_aload_n hx hb dX8_readsBranch_77 rfl (lv_at hl 1 rfl) ?_
        refine lv_iload hx hb dX8_readsBranch_78 (lv_at hl 0 rfl) ?_
        refine lv_iload_n hx hb dX8_readsBranch_80 rfl (lv_at hl 3 rfl) ?_
        refine lv_iload_n hx hb dX8_readsBranch_81 rfl (lv_at hl 2 rfl) ?_
        obtain ⟨o26, h27, hf⟩ := obO hf
        obtain ⟨t29, g28, hf⟩ := ob hf
        refine r_callV X kw_X8_251 (ci := 8) rfl (c_X8_readsNode l B D cA m24 x0 t20 t1.1 x1 t29.1 t29.2 g28) ⟨Nat.le_of_ble_eq_true rfl, Nat.le_of_ble_eq_true rfl⟩ h27 hR hS hl.1 rfl rfl (Nat.le_of_ble_eq_true rfl) ⟨Nat.le_of_ble_eq_true rfl, Nat.le_of_ble_eq_true rfl⟩ dX8_readsBranch_82 (fun H locs hR hS => ?_)
        refine W.eq (g2 := F0 mt 85 ls [.int t29.1]) rfl ?_
        obtain ⟨h30, hf⟩ := obB hf
        obtain ⟨rfl, rfl⟩ := Prod.mk.inj (Option.some.inj hf)
        exact r_iret X hr hlocks hR hS h30 dX8_readsBranch_85
      have hf := hjt20
      clear hjt20
      refine lv_icmp_ne (tgt := 64) hx hb dX8_readsBranch_57 (by decide) (fun c21 => ?_) (fun c21 => ?_)
      · rw [if_neg c21] at hf
        refine lv_iconst (v := 2) hx hb dX8_readsBranch_64 (by decide) ?_
        obtain rfl := Option.some.inj hf
        exact hJt20 H locs ls hR hS (lv_sub hl [0, 1, 2] rfl)
      · rw [if_pos c21] at hf
        refine lv_iconst (v := 1) hx hb dX8_readsBranch_60 (by decide) ?_
        refine lv_goto (tgt := 65) hx hb dX8_readsBranch_61 (by decide) ?_
        obtain rfl := Option.some.inj hf
        exact hJt20 H locs ls hR hS (lv_sub hl [0, 1, 2] rfl)
    refine lv_icmp_eq (tgt := 51) hx hb dX8_readsBranch_33 (by decide) (fun c31 => ?_) (fun c31 => ?_)
    · rw [if_pos c31] at hf
      exact hJ51  H locs ls hf hR hS (lv_sub hl [0, 1, 2] rfl)
    · rw [if_neg c31] at hf
      refine lv_aload_n hx hb dX8_readsBranch_36 rfl (lv_at hl 0 rfl) ?_
      obtain ⟨o32, h33, hf⟩ := obO hf
      obtain ⟨v35, g34, hf⟩ := ob hf
      refine r_callV X kw_X8_232 (ci := 8) rfl (c_X8_here l B D cA t1.2 x0 v35 g34) ⟨Nat.le_of_ble_eq_true rfl, Nat.le_of_ble_eq_true rfl⟩ h33 hR hS hl.1 rfl rfl (Nat.le_of_ble_eq_true rfl) ⟨Nat.le_of_ble_eq_true rfl, Nat.le_of_ble_eq_true rfl⟩ dX8_readsBranch_37 (fun H locs hR hS => ?_)
      refine W.eq (g2 := F0 mt 40 ls [.int v35]) rfl ?_
      refine lv_bipush (v := 126) hx hb dX8_readsBranch_40 (by decide) ?_
      refine lv_icmp_eq (tgt := 51) hx hb dX8_readsBranch_42 (by decide) (fun c36 => ?_) (fun c36 => ?_)
      · rw [if_pos c36] at hf
        exact hJ51  H locs ls hf hR hS (lv_sub hl [0, 1, 2] rfl)
      · rw [if_neg c36] at hf
        refine lv_aload_n hx hb dX8_readsBranch_45 rfl (lv_at hl 0 rfl) ?_
        refine lv_iconst (v := 1) hx hb dX8_readsBranch_46 (by decide) ?_
        obtain ⟨o37, h38, hf⟩ := obO hf
        obtain ⟨t40, g39, hf⟩ := ob hf
        refine r_callV X kw_X8_235 (ci := 8) rfl (c_X8_wrong l B D cA t1.2 x0 (1 : Int32) t40.1 t40.2 g39) ⟨Nat.le_of_ble_eq_true rfl, Nat.le_of_ble_eq_true rfl⟩ h38 hR hS hl.1 rfl rfl (Nat.le_of_ble_eq_true rfl) ⟨Nat.le_of_ble_eq_true rfl, Nat.le_of_ble_eq_true rfl⟩ dX8_readsBranch_47 (fun H locs hR hS => ?_)
        refine W.eq (g2 := F0 mt 50 ls [.int t40.1]) rfl ?_
        obtain ⟨h41, hf⟩ := obB hf
        obtain ⟨rfl, rfl⟩ := Prod.mk.inj (Option.some.inj hf)
        exact r_iret X hr hlocks hR hS h41 dX8_readsBranch_50
  have hf := hjt1
  clear hjt1
  refine lv_if_ne (tgt := 27) hx hb dX8_readsBranch_3 (by decide) (fun c2 => ?_) (fun c2 => ?_)
  · rw [if_neg c2] at hf
    obtain rfl := Option.some.inj hf
    exact hJt1 H locs ls hR hS (lv_sub hl [1, 2, 0] rfl)
  · rw [if_pos c2] at hf
    refine lv_aload_n hx hb dX8_readsBranch_6 rfl (lv_at hl 1 rfl) ?_
    obtain ⟨o3, h4, hf⟩ := obO hf
    obtain ⟨v6, g5, hf⟩ := ob hf
    refine r_callV X kw_X8_232 (ci := 8) rfl (c_X8_here l B D cA m x0 v6 g5) ⟨Nat.le_of_ble_eq_true rfl, Nat.le_of_ble_eq_true rfl⟩ h4 hR hS hl.1 rfl rfl (Nat.le_of_ble_eq_true rfl) ⟨Nat.le_of_ble_eq_true rfl, Nat.le_of_ble_eq_true rfl⟩ dX8_readsBranch_7 (fun H locs hR hS => ?_)
    refine W.eq (g2 := F0 mt 10 ls [.int v6]) rfl ?_
    refine lv_bipush (v := 59) hx hb dX8_readsBranch_10 (by decide) ?_
    refine lv_icmp_ne (tgt := 27) hx hb dX8_readsBranch_12 (by decide) (fun c7 => ?_) (fun c7 => ?_)
    · rw [if_neg c7] at hf
      obtain rfl := Option.some.inj hf
      exact hJt1 H locs ls hR hS (lv_sub hl [1, 2, 0] rfl)
    · rw [if_pos c7] at hf
      refine lv_iconst (v := 1) hx hb dX8_readsBranch_15 (by decide) ?_
      refine lv_istore_n (lv' := [(3, .int (1 : Int32)), (0, .ref (B + x0)), (1, .int x1), (2, .int x2)]) hx hb dX8_readsBranch_16 rfl hl (by decide) rfl (fun ls hl => ?_)
      refine lv_aload_n hx hb dX8_readsBranch_17 rfl (lv_at hl 1 rfl) ?_
      refine lv_dup hx hb dX8_readsBranch_18 rfl ?_
      obtain ⟨v8, g9, hf⟩ := ob hf
      refine gI_X8_223 X hR g9 dX8_readsBranch_19 ?_
      refine lv_iconst (v := 1) hx hb dX8_readsBranch_22 (by decide) ?_
      refine lv_iadd hx hb dX8_readsBranch_23 ?_
      obtain ⟨m10, g11, hf⟩ := ob hf
      refine pI_X8_223 X hR hS g11 dX8_readsBranch_24 (fun H locs hR hS => ?_)
      obtain rfl := Option.some.inj hf
      exact hJt1 H locs ls hR hS (lv_sub hl [1, 2, 0] rfl)
/-! ===== TwigMatchesModel.readsTwig()Z ===== -/
theorem dX8_readsTwig_0 : decode cX8_readsTwig 0 = .ok (.aload_n 0, 1) := by decide +kernel
theorem dX8_readsTwig_1 : decode cX8_readsTwig 1 = .ok (.iconst 0, 1) := by decide +kernel
theorem dX8_readsTwig_2 : decode cX8_readsTwig 2 = .ok (.putfield 223, 3) := by decide +kernel
theorem dX8_readsTwig_5 : decode cX8_readsTwig 5 = .ok (.aload_n 0, 1) := by decide +kernel
theorem dX8_readsTwig_6 : decode cX8_readsTwig 6 = .ok (.iconst 0, 1) := by decide +kernel
theorem dX8_readsTwig_7 : decode cX8_readsTwig 7 = .ok (.putfield 248, 3) := by decide +kernel
theorem dX8_readsTwig_10 : decode cX8_readsTwig 10 = .ok (.aload_n 0, 1) := by decide +kernel
theorem dX8_readsTwig_11 : decode cX8_readsTwig 11 = .ok (.iconst 0, 1) := by decide +kernel
theorem dX8_readsTwig_12 : decode cX8_readsTwig 12 = .ok (.iconst 0, 1) := by decide +kernel
theorem dX8_readsTwig_13 : decode cX8_readsTwig 13 = .ok (.iconst (-1), 1) := by decide +kernel
theorem dX8_readsTwig_14 : decode cX8_readsTwig 14 = .ok (.invokevirtual 251, 3) := by decide +kernel
theorem dX8_readsTwig_17 : decode cX8_readsTwig 17 = .ok (.istore_n 1, 1) := by decide +kernel
theorem dX8_readsTwig_18 : decode cX8_readsTwig 18 = .ok (.iload_n 1, 1) := by decide +kernel
theorem dX8_readsTwig_19 : decode cX8_readsTwig 19 = .ok (.ifCond .eq 16, 3) := by decide +kernel
theorem dX8_readsTwig_22 : decode cX8_readsTwig 22 = .ok (.aload_n 0, 1) := by decide +kernel
theorem dX8_readsTwig_23 : decode cX8_readsTwig 23 = .ok (.invokevirtual 232, 3) := by decide +kernel
theorem dX8_readsTwig_26 : decode cX8_readsTwig 26 = .ok (.bipush 40, 2) := by decide +kernel
theorem dX8_readsTwig_28 : decode cX8_readsTwig 28 = .ok (.if_icmp .ne 7, 3) := by decide +kernel
theorem dX8_readsTwig_31 : decode cX8_readsTwig 31 = .ok (.iconst 0, 1) := by decide +kernel
theorem dX8_readsTwig_32 : decode cX8_readsTwig 32 = .ok (.goto 4, 3) := by decide +kernel
theorem dX8_readsTwig_35 : decode cX8_readsTwig 35 = .ok (.iconst (-1), 1) := by decide +kernel
theorem dX8_readsTwig_36 : decode cX8_readsTwig 36 = .ok (.istore_n 2, 1) := by decide +kernel
theorem dX8_readsTwig_37 : decode cX8_readsTwig 37 = .ok (.iload_n 2, 1) := by decide +kernel
theorem dX8_readsTwig_38 : decode cX8_readsTwig 38 = .ok (.ifCond .ne 7, 3) := by decide +kernel
theorem dX8_readsTwig_41 : decode cX8_readsTwig 41 = .ok (.iconst 1, 1) := by decide +kernel
theorem dX8_readsTwig_42 : decode cX8_readsTwig 42 = .ok (.goto 4, 3) := by decide +kernel
theorem dX8_readsTwig_45 : decode cX8_readsTwig 45 = .ok (.iconst 0, 1) := by decide +kernel
theorem dX8_readsTwig_46 : decode cX8_readsTwig 46 = .ok (.istore_n 3, 1) := by decide +kernel
theorem dX8_readsTwig_47 : decode cX8_readsTwig 47 = .ok (.aload_n 0, 1) := by decide +kernel
theorem dX8_readsTwig_48 : decode cX8_readsTwig 48 = .ok (.dup, 1) := by decide +kernel
theorem dX8_readsTwig_49 : decode cX8_readsTwig 49 = .ok (.getfield 223, 3) := by decide +kernel
theorem dX8_readsTwig_52 : decode cX8_readsTwig 52 = .ok (.iload_n 3, 1) := by decide +kernel
theorem dX8_readsTwig_53 : decode cX8_readsTwig 53 = .ok (.ifCond .eq 7, 3) := by decide +kernel
theorem dX8_readsTwig_56 : decode cX8_readsTwig 56 = .ok (.iconst 1, 1) := by decide +kernel
theorem dX8_readsTwig_57 : decode cX8_readsTwig 57 = .ok (.goto 4, 3) := by decide +kernel
theorem dX8_readsTwig_60 : decode cX8_readsTwig 60 = .ok (.iconst 0, 1) := by decide +kernel
theorem dX8_readsTwig_61 : decode cX8_readsTwig 61 = .ok (.iadd, 1) := by decide +kernel
theorem dX8_readsTwig_62 : decode cX8_readsTwig 62 = .ok (.putfield 223, 3) := by decide +kernel
theorem dX8_readsTwig_65 : decode cX8_readsTwig 65 = .ok (.iload_n 1, 1) := by decide +kernel
theorem dX8_readsTwig_66 : decode cX8_readsTwig 66 = .ok (.ifCond .eq 108, 3) := by decide +kernel
theorem dX8_readsTwig_69 : decode cX8_readsTwig 69 = .ok (.iload_n 2, 1) := by decide +kernel
theorem dX8_readsTwig_70 : decode cX8_readsTwig 70 = .ok (.iconst (-1), 1) := by decide +kernel
theorem dX8_readsTwig_71 : decode cX8_readsTwig 71 = .ok (.if_icmp .eq 103, 3) := by decide +kernel
theorem dX8_readsTwig_74 : decode cX8_readsTwig 74 = .ok (.iload_n 3, 1) := by decide +kernel
theorem dX8_readsTwig_75 : decode cX8_readsTwig 75 = .ok (.ifCond .ne 37, 3) := by decide +kernel
theorem dX8_readsTwig_78 : decode cX8_readsTwig 78 = .ok (.aload_n 0, 1) := by decide +kernel
theorem dX8_readsTwig_79 : decode cX8_readsTwig 79 = .ok (.invokevirtual 232, 3) := by decide +kernel
theorem dX8_readsTwig_82 : decode cX8_readsTwig 82 = .ok (.bipush 41, 2) := by decide +kernel
theorem dX8_readsTwig_84 : decode cX8_readsTwig 84 = .ok (.if_icmp .ne 28, 3) := by decide +kernel
theorem dX8_readsTwig_87 : decode cX8_readsTwig 87 = .ok (.aload_n 0, 1) := by decide +kernel
theorem dX8_readsTwig_88 : decode cX8_readsTwig 88 = .ok (.dup, 1) := by decide +kernel
theorem dX8_readsTwig_89 : decode cX8_readsTwig 89 = .ok (.getfield 223, 3) := by decide +kernel
theorem dX8_readsTwig_92 : decode cX8_readsTwig 92 = .ok (.iconst 1, 1) := by decide +kernel
theorem dX8_readsTwig_93 : decode cX8_readsTwig 93 = .ok (.iadd, 1) := by decide +kernel
theorem dX8_readsTwig_94 : decode cX8_readsTwig 94 = .ok (.putfield 223, 3) := by decide +kernel
theorem dX8_readsTwig_97 : decode cX8_readsTwig 97 = .ok (.aload_n 0, 1) := by decide +kernel
theorem dX8_readsTwig_98 : decode cX8_readsTwig 98 = .ok (.getfield 84, 3) := by decide +kernel
theorem dX8_readsTwig_101 : decode cX8_readsTwig 101 = .ok (.bipush 6, 2) := by decide +kernel
theorem dX8_readsTwig_103 : decode cX8_readsTwig 103 = .ok (.iload_n 2, 1) := by decide +kernel
theorem dX8_readsTwig_104 : decode cX8_readsTwig 104 = .ok (.imul, 1) := by decide +kernel
theorem dX8_readsTwig_105 : decode cX8_readsTwig 105 = .ok (.iconst 5, 1) := by decide +kernel
theorem dX8_readsTwig_106 : decode cX8_readsTwig 106 = .ok (.iadd, 1) := by decide +kernel
theorem dX8_readsTwig_107 : decode cX8_readsTwig 107 = .ok (.iaload, 1) := by decide +kernel
theorem dX8_readsTwig_108 : decode cX8_readsTwig 108 = .ok (.istore_n 2, 1) := by decide +kernel
theorem dX8_readsTwig_109 : decode cX8_readsTwig 109 = .ok (.goto (-44), 3) := by decide +kernel
theorem dX8_readsTwig_112 : decode cX8_readsTwig 112 = .ok (.aload_n 0, 1) := by decide +kernel
theorem dX8_readsTwig_113 : decode cX8_readsTwig 113 = .ok (.iload_n 2, 1) := by decide +kernel
theorem dX8_readsTwig_114 : decode cX8_readsTwig 114 = .ok (.iload_n 3, 1) := by decide +kernel
theorem dX8_readsTwig_115 : decode cX8_readsTwig 115 = .ok (.invokevirtual 254, 3) := by decide +kernel
theorem dX8_readsTwig_118 : decode cX8_readsTwig 118 = .ok (.istore_n 1, 1) := by decide +kernel
theorem dX8_readsTwig_119 : decode cX8_readsTwig 119 = .ok (.iload_n 1, 1) := by decide +kernel
theorem dX8_readsTwig_120 : decode cX8_readsTwig 120 = .ok (.ifCond .eq 16, 3) := by decide +kernel
theorem dX8_readsTwig_123 : decode cX8_readsTwig 123 = .ok (.aload_n 0, 1) := by decide +kernel
theorem dX8_readsTwig_124 : decode cX8_readsTwig 124 = .ok (.invokevirtual 232, 3) := by decide +kernel
theorem dX8_readsTwig_127 : decode cX8_readsTwig 127 = .ok (.bipush 40, 2) := by decide +kernel
theorem dX8_readsTwig_129 : decode cX8_readsTwig 129 = .ok (.if_icmp .ne 7, 3) := by decide +kernel
theorem dX8_readsTwig_132 : decode cX8_readsTwig 132 = .ok (.iconst 1, 1) := by decide +kernel
theorem dX8_readsTwig_133 : decode cX8_readsTwig 133 = .ok (.goto 4, 3) := by decide +kernel
theorem dX8_readsTwig_136 : decode cX8_readsTwig 136 = .ok (.iconst 0, 1) := by decide +kernel
theorem dX8_readsTwig_137 : decode cX8_readsTwig 137 = .ok (.istore_n 3, 1) := by decide +kernel
theorem dX8_readsTwig_138 : decode cX8_readsTwig 138 = .ok (.iload_n 3, 1) := by decide +kernel
theorem dX8_readsTwig_139 : decode cX8_readsTwig 139 = .ok (.ifCond .eq 12, 3) := by decide +kernel
theorem dX8_readsTwig_142 : decode cX8_readsTwig 142 = .ok (.aload_n 0, 1) := by decide +kernel
theorem dX8_readsTwig_143 : decode cX8_readsTwig 143 = .ok (.getfield 248, 3) := by decide +kernel
theorem dX8_readsTwig_146 : decode cX8_readsTwig 146 = .ok (.iconst 1, 1) := by decide +kernel
theorem dX8_readsTwig_147 : decode cX8_readsTwig 147 = .ok (.isub, 1) := by decide +kernel
theorem dX8_readsTwig_148 : decode cX8_readsTwig 148 = .ok (.goto 4, 3) := by decide +kernel
theorem dX8_readsTwig_151 : decode cX8_readsTwig 151 = .ok (.iload_n 2, 1) := by decide +kernel
theorem dX8_readsTwig_152 : decode cX8_readsTwig 152 = .ok (.istore_n 2, 1) := by decide +kernel
theorem dX8_readsTwig_153 : decode cX8_readsTwig 153 = .ok (.aload_n 0, 1) := by decide +kernel
theorem dX8_readsTwig_154 : decode cX8_readsTwig 154 = .ok (.dup, 1) := by decide +kernel
theorem dX8_readsTwig_155 : decode cX8_readsTwig 155 = .ok (.getfield 223, 3) := by decide +kernel
theorem dX8_readsTwig_158 : decode cX8_readsTwig 158 = .ok (.iload_n 3, 1) := by decide +kernel
theorem dX8_readsTwig_159 : decode cX8_readsTwig 159 = .ok (.ifCond .eq 7, 3) := by decide +kernel
theorem dX8_readsTwig_162 : decode cX8_readsTwig 162 = .ok (.iconst 1, 1) := by decide +kernel
theorem dX8_readsTwig_163 : decode cX8_readsTwig 163 = .ok (.goto 4, 3) := by decide +kernel
theorem dX8_readsTwig_166 : decode cX8_readsTwig 166 = .ok (.iconst 0, 1) := by decide +kernel
theorem dX8_readsTwig_167 : decode cX8_readsTwig 167 = .ok (.iadd, 1) := by decide +kernel
theorem dX8_readsTwig_168 : decode cX8_readsTwig 168 = .ok (.putfield 223, 3) := by decide +kernel
theorem dX8_readsTwig_171 : decode cX8_readsTwig 171 = .ok (.goto (-106), 3) := by decide +kernel
theorem dX8_readsTwig_174 : decode cX8_readsTwig 174 = .ok (.iload_n 1, 1) := by decide +kernel
theorem dX8_readsTwig_175 : decode cX8_readsTwig 175 = .ok (.ifCond .eq 26, 3) := by decide +kernel
theorem dX8_readsTwig_178 : decode cX8_readsTwig 178 = .ok (.aload_n 0, 1) := by decide +kernel
theorem dX8_readsTwig_179 : decode cX8_readsTwig 179 = .ok (.getfield 223, 3) := by decide +kernel
theorem dX8_readsTwig_182 : decode cX8_readsTwig 182 = .ok (.aload_n 0, 1) := by decide +kernel
theorem dX8_readsTwig_183 : decode cX8_readsTwig 183 = .ok (.getfield 220, 3) := by decide +kernel
theorem dX8_readsTwig_186 : decode cX8_readsTwig 186 = .ok (.if_icmp .eq 11, 3) := by decide +kernel
theorem dX8_readsTwig_189 : decode cX8_readsTwig 189 = .ok (.aload_n 0, 1) := by decide +kernel
theorem dX8_readsTwig_190 : decode cX8_readsTwig 190 = .ok (.iconst 1, 1) := by decide +kernel
theorem dX8_readsTwig_191 : decode cX8_readsTwig 191 = .ok (.invokevirtual 235, 3) := by decide +kernel
theorem dX8_readsTwig_194 : decode cX8_readsTwig 194 = .ok (.ifCond .eq 7, 3) := by decide +kernel
theorem dX8_readsTwig_197 : decode cX8_readsTwig 197 = .ok (.iconst 1, 1) := by decide +kernel
theorem dX8_readsTwig_198 : decode cX8_readsTwig 198 = .ok (.goto 4, 3) := by decide +kernel
theorem dX8_readsTwig_201 : decode cX8_readsTwig 201 = .ok (.iconst 0, 1) := by decide +kernel
theorem dX8_readsTwig_202 : decode cX8_readsTwig 202 = .ok (.ireturn, 1) := by decide +kernel
set_option maxHeartbeats 4000000 in
set_option maxRecDepth 100000 in
theorem c_X8_readsTwig (l : Launch) (B : Nat) (D : va_G) (cA : Nat → ClassId) (m : Mm) (x0 : Nat) (rZ : Int32) (mZ : Mm) (hf : f_X8_readsTwig m x0 = some (rZ, mZ)) : Mt l B D cA yX8_readsTwig cX8_readsTwig 4 (some .boolean) 3 71 0 0 [.ref (B + x0)] m (some (.int rZ)) mZ := by
  refine r_start (by decide) (Nat.le_of_ble_eq_true rfl) ?_
  intro p e s mt args below meth c ls H locs X hr hlocks hnm hR hl hS
  have hx := X.1
  have hb := X.2.1
  have hl : lv_has ls 4 [(0, .ref (B + x0))] := hl
  unfold f_X8_readsTwig at hf
  refine lv_aload_n hx hb dX8_readsTwig_0 rfl (lv_at hl 0 rfl) ?_
  refine lv_iconst (v := 0) hx hb dX8_readsTwig_1 (by decide) ?_
  obtain ⟨m1, g2, hf⟩ := ob hf
  refine pI_X8_223 X hR hS g2 dX8_readsTwig_2 (fun H locs hR hS => ?_)
  refine lv_aload_n hx hb dX8_readsTwig_5 rfl (lv_at hl 0 rfl) ?_
  refine lv_iconst (v := 0) hx hb dX8_readsTwig_6 (by decide) ?_
  obtain ⟨m3, g4, hf⟩ := ob hf
  refine pI_X8_248 X hR hS g4 dX8_readsTwig_7 (fun H locs hR hS => ?_)
  refine lv_aload_n hx hb dX8_readsTwig_10 rfl (lv_at hl 0 rfl) ?_
  refine lv_iconst (v := 0) hx hb dX8_readsTwig_11 (by decide) ?_
  refine lv_iconst (v := 0) hx hb dX8_readsTwig_12 (by decide) ?_
  refine lv_iconst (v := -1) hx hb dX8_readsTwig_13 (by decide) ?_
  obtain ⟨o5, h6, hf⟩ := obO hf
  obtain ⟨t8, g7, hf⟩ := ob hf
  refine r_callV X kw_X8_251 (ci := 8) rfl (c_X8_readsNode l B D cA m3 x0 (0 : Int32) (0 : Int32) (-1 : Int32) t8.1 t8.2 g7) ⟨Nat.le_of_ble_eq_true rfl, Nat.le_of_ble_eq_true rfl⟩ h6 hR hS hl.1 rfl rfl (Nat.le_of_ble_eq_true rfl) ⟨Nat.le_of_ble_eq_true rfl, Nat.le_of_ble_eq_true rfl⟩ dX8_readsTwig_14 (fun H locs hR hS => ?_)
  refine W.eq (g2 := F0 mt 17 ls [.int t8.1]) rfl ?_
  refine lv_istore_n (lv' := [(1, .int t8.1), (0, .ref (B + x0))]) hx hb dX8_readsTwig_17 rfl hl (by decide) rfl (fun ls hl => ?_)
  refine lv_iload_n hx hb dX8_readsTwig_18 rfl (lv_at hl 0 rfl) ?_
  obtain ⟨t9, hjt9, hf⟩ := ob hf
  have hJt9 : ∀ (H : Heap) (locs : List Loc) (ls : Array Slot), Rl B D cA t8.2 H → va_S (fun q => B ≤ q) s.heap H locs → lv_has ls 4 [(0, .ref (B + x0)), (1, .int t8.1)] → W p l e (rmm 3 0 0 71) s mt args below meth c H locs 0 0 (MQ below (mQ B D cA (some (.int rZ)) mZ) args s 0 0 (fun q => B ≤ q)) (F0 mt 36 ls [.int t9]) := by
    intro H locs ls hR hS hl
    refine lv_istore_n (lv' := [(2, .int t9), (0, .ref (B + x0)), (1, .int t8.1)]) hx hb dX8_readsTwig_36 rfl hl (by decide) rfl (fun ls hl => ?_)
    refine lv_iload_n hx hb dX8_readsTwig_37 rfl (lv_at hl 0 rfl) ?_
    obtain ⟨t16, hjt16, hf⟩ := ob hf
    have hJt16 : ∀ (H : Heap) (locs : List Loc) (ls : Array Slot), Rl B D cA t8.2 H → va_S (fun q => B ≤ q) s.heap H locs → lv_has ls 4 [(0, .ref (B + x0)), (1, .int t8.1), (2, .int t9)] → W p l e (rmm 3 0 0 71) s mt args below meth c H locs 0 0 (MQ below (mQ B D cA (some (.int rZ)) mZ) args s 0 0 (fun q => B ≤ q)) (F0 mt 46 ls [.int t16]) := by
      intro H locs ls hR hS hl
      refine lv_istore_n (lv' := [(3, .int t16), (0, .ref (B + x0)), (1, .int t8.1), (2, .int t9)]) hx hb dX8_readsTwig_46 rfl hl (by decide) rfl (fun ls hl => ?_)
      refine lv_aload_n hx hb dX8_readsTwig_47 rfl (lv_at hl 1 rfl) ?_
      refine lv_dup hx hb dX8_readsTwig_48 rfl ?_
      obtain ⟨v18, g19, hf⟩ := ob hf
      refine gI_X8_223 X hR g19 dX8_readsTwig_49 ?_
      refine lv_iload_n hx hb dX8_readsTwig_52 rfl (lv_at hl 0 rfl) ?_
      obtain ⟨t20, hjt20, hf⟩ := ob hf
      have hJt20 : ∀ (H : Heap) (locs : List Loc) (ls : Array Slot), Rl B D cA t8.2 H → va_S (fun q => B ≤ q) s.heap H locs → lv_has ls 4 [(0, .ref (B + x0)), (1, .int t8.1), (2, .int t9), (3, .int t16)] → W p l e (rmm 3 0 0 71) s mt args below meth c H locs 0 0 (MQ below (mQ B D cA (some (.int rZ)) mZ) args s 0 0 (fun q => B ≤ q)) (F0 mt 61 ls [.int t20, .int v18, .ref (B + x0)]) := by
        intro H locs ls hR hS hl
        refine lv_iadd hx hb dX8_readsTwig_61 ?_
        obtain ⟨m22, g23, hf⟩ := ob hf
        refine pI_X8_223 X hR hS g23 dX8_readsTwig_62 (fun H locs hR hS => ?_)
        obtain ⟨e25, hwe25, hf⟩ := ob hf
        refine whl_rule (P := (fun t24 => ∀ (H : Heap) (locs : List Loc) (ls : Array Slot), Rl B D cA t24.2.2.2 H → va_S (fun q => B ≤ q) s.heap H locs → lv_has ls 4 [(0, .ref (B + x0)), (1, .int t24.1), (2, .int t24.2.1), (3, .int t24.2.2.1)] → W p l e (rmm 3 0 0 71) s mt args below meth c H locs 0 0 (MQ below (mQ B D cA (some (.int rZ)) mZ) args s 0 0 (fun q => B ≤ q)) (F0 mt 65 ls []))) (Qx := (fun e25 => ∀ (H : Heap) (locs : List Loc) (ls : Array Slot), Rl B D cA e25.2 H → va_S (fun q => B ≤ q) s.heap H locs → lv_has ls 4 [(0, .ref (B + x0)), (1, .int e25.1)] → W p l e (rmm 3 0 0 71) s mt args below meth c H locs 0 0 (MQ below (mQ B D cA (some (.int rZ)) mZ) args s 0 0 (fun q => B ≤ q)) (F0 mt 174 ls []))) ?_ FU _ e25 hwe25 ?_ H locs ls hR hS (lv_sub hl [0, 1, 2, 3] rfl)
        · clear hwe25 hf
          intro t24 q26 hf hxlq26 hxrq26 H locs ls hR hS hl
          obtain ⟨z27, z28, z29, m30⟩ := t24
          have hf : f_X8_readsTwig_L65 m30 x0 z27 z28 z29 = some q26 := hf
          have hR : Rl B D cA m30 H := hR
          have hl : lv_has ls 4 [(0, .ref (B + x0)), (1, .int z27), (2, .int z28), (3, .int z29)] := hl
          unfold f_X8_readsTwig_L65 at hf
          refine lv_iload_n hx hb dX8_readsTwig_65 rfl (lv_at hl 1 rfl) ?_
          refine lv_if_eq (tgt := 174) hx hb dX8_readsTwig_66 (by decide) (fun c31 => ?_) (fun c31 => ?_)
          · rw [if_pos c31] at hf
            obtain rfl := Option.some.inj hf
            exact hxrq26 _ rfl H locs ls hR hS (lv_sub hl [0, 1] rfl)
          · rw [if_neg c31] at hf
            refine lv_iload_n hx hb dX8_readsTwig_69 rfl (lv_at hl 2 rfl) ?_
            refine lv_iconst (v := -1) hx hb dX8_readsTwig_70 (by decide) ?_
            refine lv_icmp_eq (tgt := 174) hx hb dX8_readsTwig_71 (by decide) (fun c32 => ?_) (fun c32 => ?_)
            · rw [if_pos c32] at hf
              obtain rfl := Option.some.inj hf
              exact hxrq26 _ rfl H locs ls hR hS (lv_sub hl [0, 1] rfl)
            · rw [if_neg c32] at hf
              refine lv_iload_n hx hb dX8_readsTwig_74 rfl (lv_at hl 3 rfl) ?_
              have hJ112 : ∀  (H : Heap) (locs : List Loc) (ls : Array Slot), f_X8_readsTwig_J112 m30 x0 z28 z29 = some q26 → Rl B D cA m30 H → va_S (fun q => B ≤ q) s.heap H locs → lv_has ls 4 [(0, .ref (B + x0)), (2, .int z28), (3, .int z29)] → W p l e (rmm 3 0 0 71) s mt args below meth c H locs 0 0 (MQ below (mQ B D cA (some (.int rZ)) mZ) args s 0 0 (fun q => B ≤ q)) (F0 mt 112 ls []) := by
                intro  H locs ls hf hR hS hl
                unfold f_X8_readsTwig_J112 at hf
                refine lv_aload_n hx hb dX8_readsTwig_112 rfl (lv_at hl 0 rfl) ?_
                refine lv_iload_n hx hb dX8_readsTwig_113 rfl (lv_at hl 1 rfl) ?_
                refine lv_iload_n hx hb dX8_readsTwig_114 rfl (lv_at hl 2 rfl) ?_
                obtain ⟨o33, h34, hf⟩ := obO hf
                obtain ⟨t36, g35, hf⟩ := ob hf
                refine r_callV X kw_X8_254 (ci := 8) rfl (c_X8_readsBranch l B D cA m30 x0 z28 z29 t36.1 t36.2 g35) ⟨Nat.le_of_ble_eq_true rfl, Nat.le_of_ble_eq_true rfl⟩ h34 hR hS hl.1 rfl rfl (Nat.le_of_ble_eq_true rfl) ⟨Nat.le_of_ble_eq_true rfl, Nat.le_of_ble_eq_true rfl⟩ dX8_readsTwig_115 (fun H locs hR hS => ?_)
                refine W.eq (g2 := F0 mt 118 ls [.int t36.1]) rfl ?_
                refine lv_istore_n (lv' := [(1, .int t36.1), (0, .ref (B + x0)), (2, .int z28), (3, .int z29)]) hx hb dX8_readsTwig_118 rfl hl (by decide) rfl (fun ls hl => ?_)
                refine lv_iload_n hx hb dX8_readsTwig_119 rfl (lv_at hl 0 rfl) ?_
                obtain ⟨t37, hjt37, hf⟩ := ob hf
                have hJt37 : ∀ (H : Heap) (locs : List Loc) (ls : Array Slot), Rl B D cA t36.2 H → va_S (fun q => B ≤ q) s.heap H locs → lv_has ls 4 [(0, .ref (B + x0)), (1, .int t36.1), (2, .int z28)] → W p l e (rmm 3 0 0 71) s mt args below meth c H locs 0 0 (MQ below (mQ B D cA (some (.int rZ)) mZ) args s 0 0 (fun q => B ≤ q)) (F0 mt 137 ls [.int t37]) := by
                  intro H locs ls hR hS hl
                  refine lv_istore_n (lv' := [(3, .int t37), (0, .ref (B + x0)), (1, .int t36.1), (2, .int z28)]) hx hb dX8_readsTwig_137 rfl hl (by decide) rfl (fun ls hl => ?_)
                  refine lv_iload_n hx hb dX8_readsTwig_138 rfl (lv_at hl 0 rfl) ?_
                  obtain ⟨t44, hjt44, hf⟩ := ob hf
                  have hJt44 : ∀ (H : Heap) (locs : List Loc) (ls : Array Slot), Rl B D cA t36.2 H → va_S (fun q => B ≤ q) s.heap H locs → lv_has ls 4 [(0, .ref (B + x0)), (1, .int t36.1), (3, .int t37)] → W p l e (rmm 3 0 0 71) s mt args below meth c H locs 0 0 (MQ below (mQ B D cA (some (.int rZ)) mZ) args s 0 0 (fun q => B ≤ q)) (F0 mt 152 ls [.int t44]) := by
                    intro H locs ls hR hS hl
                    refine lv_istore_n (lv' := [(2, .int t44), (0, .ref (B + x0)), (1, .int t36.1), (3, .int t37)]) hx hb dX8_readsTwig_152 rfl hl (by decide) rfl (fun ls hl => ?_)
                    refine lv_aload_n hx hb dX8_readsTwig_153 rfl (lv_at hl 1 rfl) ?_
                    refine lv_dup hx hb dX8_readsTwig_154 rfl ?_
                    obtain ⟨v48, g49, hf⟩ := ob hf
                    refine gI_X8_223 X hR g49 dX8_readsTwig_155 ?_
                    refine lv_iload_n hx hb dX8_readsTwig_158 rfl (lv_at hl 3 rfl) ?_
                    refine lv_if_eq (tgt := 166) hx hb dX8_readsTwig_159 (by decide) (fun c50 => ?_) (fun c50 => ?_)
                    · rw [if_pos c50] at hf
                      refine lv_iconst (v := 0) hx hb dX8_readsTwig_166 (by decide) ?_
                      refine lv_iadd hx hb dX8_readsTwig_167 ?_
                      obtain ⟨m51, g52, hf⟩ := ob hf
                      refine pI_X8_223 X hR hS g52 dX8_readsTwig_168 (fun H locs hR hS => ?_)
                      refine lv_goto (tgt := 65) hx hb dX8_readsTwig_171 (by decide) ?_
                      obtain rfl := Option.some.inj hf
                      exact hxlq26 _ rfl H locs ls hR hS (lv_sub hl [1, 2, 0, 3] rfl)
                    · rw [if_neg c50] at hf
                      refine lv_iconst (v := 1) hx hb dX8_readsTwig_162 (by decide) ?_
                      refine lv_goto (tgt := 167) hx hb dX8_readsTwig_163 (by decide) ?_
                      refine lv_iadd hx hb dX8_readsTwig_167 ?_
                      obtain ⟨m53, g54, hf⟩ := ob hf
                      refine pI_X8_223 X hR hS g54 dX8_readsTwig_168 (fun H locs hR hS => ?_)
                      refine lv_goto (tgt := 65) hx hb dX8_readsTwig_171 (by decide) ?_
                      obtain rfl := Option.some.inj hf
                      exact hxlq26 _ rfl H locs ls hR hS (lv_sub hl [1, 2, 0, 3] rfl)
                  have hf := hjt44
                  clear hjt44
                  refine lv_if_eq (tgt := 151) hx hb dX8_readsTwig_139 (by decide) (fun c45 => ?_) (fun c45 => ?_)
                  · rw [if_pos c45] at hf
                    refine lv_iload_n hx hb dX8_readsTwig_151 rfl (lv_at hl 3 rfl) ?_
                    obtain rfl := Option.some.inj hf
                    exact hJt44 H locs ls hR hS (lv_sub hl [1, 2, 0] rfl)
                  · rw [if_neg c45] at hf
                    refine lv_aload_n hx hb dX8_readsTwig_142 rfl (lv_at hl 1 rfl) ?_
                    obtain ⟨v46, g47, hf⟩ := ob hf
                    refine gI_X8_248 X hR g47 dX8_readsTwig_143 ?_
                    refine lv_iconst (v := 1) hx hb dX8_readsTwig_146 (by decide) ?_
                    refine lv_isub hx hb dX8_readsTwig_147 ?_
                    refine lv_goto (tgt := 152) hx hb dX8_readsTwig_148 (by decide) ?_
                    obtain rfl := Option.some.inj hf
                    exact hJt44 H locs ls hR hS (lv_sub hl [1, 2, 0] rfl)
                have hf := hjt37
                clear hjt37
                refine lv_if_eq (tgt := 136) hx hb dX8_readsTwig_120 (by decide) (fun c38 => ?_) (fun c38 => ?_)
                · rw [if_pos c38] at hf
                  refine lv_iconst (v := 0) hx hb dX8_readsTwig_136 (by decide) ?_
                  obtain rfl := Option.some.inj hf
                  exact hJt37 H locs ls hR hS (lv_sub hl [1, 0, 2] rfl)
                · rw [if_neg c38] at hf
                  refine lv_aload_n hx hb dX8_readsTwig_123 rfl (lv_at hl 1 rfl) ?_
                  obtain ⟨o39, h40, hf⟩ := obO hf
                  obtain ⟨v42, g41, hf⟩ := ob hf
                  refine r_callV X kw_X8_232 (ci := 8) rfl (c_X8_here l B D cA t36.2 x0 v42 g41) ⟨Nat.le_of_ble_eq_true rfl, Nat.le_of_ble_eq_true rfl⟩ h40 hR hS hl.1 rfl rfl (Nat.le_of_ble_eq_true rfl) ⟨Nat.le_of_ble_eq_true rfl, Nat.le_of_ble_eq_true rfl⟩ dX8_readsTwig_124 (fun H locs hR hS => ?_)
                  refine W.eq (g2 := F0 mt 127 ls [.int v42]) rfl ?_
                  refine lv_bipush (v := 40) hx hb dX8_readsTwig_127 (by decide) ?_
                  refine lv_icmp_ne (tgt := 136) hx hb dX8_readsTwig_129 (by decide) (fun c43 => ?_) (fun c43 => ?_)
                  · rw [if_neg c43] at hf
                    refine lv_iconst (v := 0) hx hb dX8_readsTwig_136 (by decide) ?_
                    obtain rfl := Option.some.inj hf
                    exact hJt37 H locs ls hR hS (lv_sub hl [1, 0, 2] rfl)
                  · rw [if_pos c43] at hf
                    refine lv_iconst (v := 1) hx hb dX8_readsTwig_132 (by decide) ?_
                    refine lv_goto (tgt := 137) hx hb dX8_readsTwig_133 (by decide) ?_
                    obtain rfl := Option.some.inj hf
                    exact hJt37 H locs ls hR hS (lv_sub hl [1, 0, 2] rfl)
              refine lv_if_ne (tgt := 112) hx hb dX8_readsTwig_75 (by decide) (fun c55 => ?_) (fun c55 => ?_)
              · rw [if_neg c55] at hf
                exact hJ112  H locs ls hf hR hS (lv_sub hl [0, 2, 3] rfl)
              · rw [if_pos c55] at hf
                refine lv_aload_n hx hb dX8_readsTwig_78 rfl (lv_at hl 0 rfl) ?_
                obtain ⟨o56, h57, hf⟩ := obO hf
                obtain ⟨v59, g58, hf⟩ := ob hf
                refine r_callV X kw_X8_232 (ci := 8) rfl (c_X8_here l B D cA m30 x0 v59 g58) ⟨Nat.le_of_ble_eq_true rfl, Nat.le_of_ble_eq_true rfl⟩ h57 hR hS hl.1 rfl rfl (Nat.le_of_ble_eq_true rfl) ⟨Nat.le_of_ble_eq_true rfl, Nat.le_of_ble_eq_true rfl⟩ dX8_readsTwig_79 (fun H locs hR hS => ?_)
                refine W.eq (g2 := F0 mt 82 ls [.int v59]) rfl ?_
                refine lv_bipush (v := 41) hx hb dX8_readsTwig_82 (by decide) ?_
                refine lv_icmp_ne (tgt := 112) hx hb dX8_readsTwig_84 (by decide) (fun c60 => ?_) (fun c60 => ?_)
                · rw [if_neg c60] at hf
                  exact hJ112  H locs ls hf hR hS (lv_sub hl [0, 2, 3] rfl)
                · rw [if_pos c60] at hf
                  refine lv_aload_n hx hb dX8_readsTwig_87 rfl (lv_at hl 0 rfl) ?_
                  refine lv_dup hx hb dX8_readsTwig_88 rfl ?_
                  obtain ⟨v61, g62, hf⟩ := ob hf
                  refine gI_X8_223 X hR g62 dX8_readsTwig_89 ?_
                  refine lv_iconst (v := 1) hx hb dX8_readsTwig_92 (by decide) ?_
                  refine lv_iadd hx hb dX8_readsTwig_93 ?_
                  obtain ⟨m63, g64, hf⟩ := ob hf
                  refine pI_X8_223 X hR hS g64 dX8_readsTwig_94 (fun H locs hR hS => ?_)
                  refine lv_aload_n hx hb dX8_readsTwig_97 rfl (lv_at hl 0 rfl) ?_
                  obtain ⟨v65, g66, hf⟩ := ob hf
                  refine gR_X8_84 X hR g66 dX8_readsTwig_98 ?_
                  refine lv_bipush (v := 6) hx hb dX8_readsTwig_101 (by decide) ?_
                  refine lv_iload_n hx hb dX8_readsTwig_103 rfl (lv_at hl 2 rfl) ?_
                  refine lv_imul hx hb dX8_readsTwig_104 ?_
                  refine lv_iconst (v := 5) hx hb dX8_readsTwig_105 (by decide) ?_
                  refine lv_iadd hx hb dX8_readsTwig_106 ?_
                  obtain ⟨v67, g68, hf⟩ := ob hf
                  refine r_lI X hR g68 dX8_readsTwig_107 ?_
                  refine lv_istore_n (lv' := [(2, .int v67), (0, .ref (B + x0)), (1, .int z27), (3, .int z29)]) hx hb dX8_readsTwig_108 rfl hl (by decide) rfl (fun ls hl => ?_)
                  refine lv_goto (tgt := 65) hx hb dX8_readsTwig_109 (by decide) ?_
                  obtain rfl := Option.some.inj hf
                  exact hxlq26 _ rfl H locs ls hR hS (lv_sub hl [1, 2, 0, 3] rfl)
        · intro H locs ls hR hS hl
          refine lv_iload_n hx hb dX8_readsTwig_174 rfl (lv_at hl 1 rfl) ?_
          refine lv_if_eq (tgt := 201) hx hb dX8_readsTwig_175 (by decide) (fun c69 => ?_) (fun c69 => ?_)
          · rw [if_pos c69] at hf
            refine lv_iconst (v := 0) hx hb dX8_readsTwig_201 (by decide) ?_
            obtain ⟨rfl, rfl⟩ := Prod.mk.inj (Option.some.inj hf)
            exact r_iret X hr hlocks hR hS rfl dX8_readsTwig_202
          · rw [if_neg c69] at hf
            refine lv_aload_n hx hb dX8_readsTwig_178 rfl (lv_at hl 0 rfl) ?_
            obtain ⟨v70, g71, hf⟩ := ob hf
            refine gI_X8_223 X hR g71 dX8_readsTwig_179 ?_
            refine lv_aload_n hx hb dX8_readsTwig_182 rfl (lv_at hl 0 rfl) ?_
            obtain ⟨v72, g73, hf⟩ := ob hf
            refine gI_X8_220 X hR g73 dX8_readsTwig_183 ?_
            refine lv_icmp_eq (tgt := 197) hx hb dX8_readsTwig_186 (by decide) (fun c74 => ?_) (fun c74 => ?_)
            · rw [if_pos c74] at hf
              refine lv_iconst (v := 1) hx hb dX8_readsTwig_197 (by decide) ?_
              refine lv_goto (tgt := 202) hx hb dX8_readsTwig_198 (by decide) ?_
              obtain ⟨rfl, rfl⟩ := Prod.mk.inj (Option.some.inj hf)
              exact r_iret X hr hlocks hR hS rfl dX8_readsTwig_202
            · rw [if_neg c74] at hf
              refine lv_aload_n hx hb dX8_readsTwig_189 rfl (lv_at hl 0 rfl) ?_
              refine lv_iconst (v := 1) hx hb dX8_readsTwig_190 (by decide) ?_
              obtain ⟨o75, h76, hf⟩ := obO hf
              obtain ⟨t78, g77, hf⟩ := ob hf
              refine r_callV X kw_X8_235 (ci := 8) rfl (c_X8_wrong l B D cA e25.2 x0 (1 : Int32) t78.1 t78.2 g77) ⟨Nat.le_of_ble_eq_true rfl, Nat.le_of_ble_eq_true rfl⟩ h76 hR hS hl.1 rfl rfl (Nat.le_of_ble_eq_true rfl) ⟨Nat.le_of_ble_eq_true rfl, Nat.le_of_ble_eq_true rfl⟩ dX8_readsTwig_191 (fun H locs hR hS => ?_)
              refine W.eq (g2 := F0 mt 194 ls [.int t78.1]) rfl ?_
              refine lv_if_eq (tgt := 201) hx hb dX8_readsTwig_194 (by decide) (fun c79 => ?_) (fun c79 => ?_)
              · rw [if_pos c79] at hf
                refine lv_iconst (v := 0) hx hb dX8_readsTwig_201 (by decide) ?_
                obtain ⟨rfl, rfl⟩ := Prod.mk.inj (Option.some.inj hf)
                exact r_iret X hr hlocks hR hS rfl dX8_readsTwig_202
              · rw [if_neg c79] at hf
                refine lv_iconst (v := 1) hx hb dX8_readsTwig_197 (by decide) ?_
                refine lv_goto (tgt := 202) hx hb dX8_readsTwig_198 (by decide) ?_
                obtain ⟨rfl, rfl⟩ := Prod.mk.inj (Option.some.inj hf)
                exact r_iret X hr hlocks hR hS rfl dX8_readsTwig_202
      have hf := hjt20
      clear hjt20
      refine lv_if_eq (tgt := 60) hx hb dX8_readsTwig_53 (by decide) (fun c21 => ?_) (fun c21 => ?_)
      · rw [if_pos c21] at hf
        refine lv_iconst (v := 0) hx hb dX8_readsTwig_60 (by decide) ?_
        obtain rfl := Option.some.inj hf
        exact hJt20 H locs ls hR hS (lv_sub hl [1, 2, 3, 0] rfl)
      · rw [if_neg c21] at hf
        refine lv_iconst (v := 1) hx hb dX8_readsTwig_56 (by decide) ?_
        refine lv_goto (tgt := 61) hx hb dX8_readsTwig_57 (by decide) ?_
        obtain rfl := Option.some.inj hf
        exact hJt20 H locs ls hR hS (lv_sub hl [1, 2, 3, 0] rfl)
    have hf := hjt16
    clear hjt16
    refine lv_if_ne (tgt := 45) hx hb dX8_readsTwig_38 (by decide) (fun c17 => ?_) (fun c17 => ?_)
    · rw [if_neg c17] at hf
      refine lv_iconst (v := 0) hx hb dX8_readsTwig_45 (by decide) ?_
      obtain rfl := Option.some.inj hf
      exact hJt16 H locs ls hR hS (lv_sub hl [1, 2, 0] rfl)
    · rw [if_pos c17] at hf
      refine lv_iconst (v := 1) hx hb dX8_readsTwig_41 (by decide) ?_
      refine lv_goto (tgt := 46) hx hb dX8_readsTwig_42 (by decide) ?_
      obtain rfl := Option.some.inj hf
      exact hJt16 H locs ls hR hS (lv_sub hl [1, 2, 0] rfl)
  have hf := hjt9
  clear hjt9
  refine lv_if_eq (tgt := 35) hx hb dX8_readsTwig_19 (by decide) (fun c10 => ?_) (fun c10 => ?_)
  · rw [if_pos c10] at hf
    refine lv_iconst (v := -1) hx hb dX8_readsTwig_35 (by decide) ?_
    obtain rfl := Option.some.inj hf
    exact hJt9 H locs ls hR hS (lv_sub hl [1, 0] rfl)
  · rw [if_neg c10] at hf
    refine lv_aload_n hx hb dX8_readsTwig_22 rfl (lv_at hl 1 rfl) ?_
    obtain ⟨o11, h12, hf⟩ := obO hf
    obtain ⟨v14, g13, hf⟩ := ob hf
    refine r_callV X kw_X8_232 (ci := 8) rfl (c_X8_here l B D cA t8.2 x0 v14 g13) ⟨Nat.le_of_ble_eq_true rfl, Nat.le_of_ble_eq_true rfl⟩ h12 hR hS hl.1 rfl rfl (Nat.le_of_ble_eq_true rfl) ⟨Nat.le_of_ble_eq_true rfl, Nat.le_of_ble_eq_true rfl⟩ dX8_readsTwig_23 (fun H locs hR hS => ?_)
    refine W.eq (g2 := F0 mt 26 ls [.int v14]) rfl ?_
    refine lv_bipush (v := 40) hx hb dX8_readsTwig_26 (by decide) ?_
    refine lv_icmp_ne (tgt := 35) hx hb dX8_readsTwig_28 (by decide) (fun c15 => ?_) (fun c15 => ?_)
    · rw [if_neg c15] at hf
      refine lv_iconst (v := -1) hx hb dX8_readsTwig_35 (by decide) ?_
      obtain rfl := Option.some.inj hf
      exact hJt9 H locs ls hR hS (lv_sub hl [1, 0] rfl)
    · rw [if_pos c15] at hf
      refine lv_iconst (v := 0) hx hb dX8_readsTwig_31 (by decide) ?_
      refine lv_goto (tgt := 36) hx hb dX8_readsTwig_32 (by decide) ?_
      obtain rfl := Option.some.inj hf
      exact hJt9 H locs ls hR hS (lv_sub hl [1, 0] rfl)
/-! ===== TwigMatchesModel.twigs(I)I ===== -/
theorem dX8_twigs_0 : decode cX8_twigs 0 = .ok (.iload_n 1, 1) := by decide +kernel
theorem dX8_twigs_1 : decode cX8_twigs 1 = .ok (.invokestatic 161, 3) := by decide +kernel
theorem dX8_twigs_4 : decode cX8_twigs 4 = .ok (.ifCond .ne 8, 3) := by decide +kernel
theorem dX8_twigs_7 : decode cX8_twigs 7 = .ok (.aload_n 0, 1) := by decide +kernel
theorem dX8_twigs_8 : decode cX8_twigs 8 = .ok (.invokevirtual 134, 3) := by decide +kernel
theorem dX8_twigs_11 : decode cX8_twigs 11 = .ok (.ireturn, 1) := by decide +kernel
theorem dX8_twigs_12 : decode cX8_twigs 12 = .ok (.aload_n 0, 1) := by decide +kernel
theorem dX8_twigs_13 : decode cX8_twigs 13 = .ok (.invokevirtual 258, 3) := by decide +kernel
theorem dX8_twigs_16 : decode cX8_twigs 16 = .ok (.ifCond .ne 11, 3) := by decide +kernel
theorem dX8_twigs_19 : decode cX8_twigs 19 = .ok (.bipush (-10), 2) := by decide +kernel
theorem dX8_twigs_21 : decode cX8_twigs 21 = .ok (.aload_n 0, 1) := by decide +kernel
theorem dX8_twigs_22 : decode cX8_twigs 22 = .ok (.getfield 226, 3) := by decide +kernel
theorem dX8_twigs_25 : decode cX8_twigs 25 = .ok (.isub, 1) := by decide +kernel
theorem dX8_twigs_26 : decode cX8_twigs 26 = .ok (.ireturn, 1) := by decide +kernel
theorem dX8_twigs_27 : decode cX8_twigs 27 = .ok (.aload_n 0, 1) := by decide +kernel
theorem dX8_twigs_28 : decode cX8_twigs 28 = .ok (.invokevirtual 140, 3) := by decide +kernel
theorem dX8_twigs_31 : decode cX8_twigs 31 = .ok (.aload_n 0, 1) := by decide +kernel
theorem dX8_twigs_32 : decode cX8_twigs 32 = .ok (.getfield 32, 3) := by decide +kernel
theorem dX8_twigs_35 : decode cX8_twigs 35 = .ok (.iload_n 1, 1) := by decide +kernel
theorem dX8_twigs_36 : decode cX8_twigs 36 = .ok (.aload_n 0, 1) := by decide +kernel
theorem dX8_twigs_37 : decode cX8_twigs 37 = .ok (.getfield 248, 3) := by decide +kernel
theorem dX8_twigs_40 : decode cX8_twigs 40 = .ok (.iastore, 1) := by decide +kernel
theorem dX8_twigs_41 : decode cX8_twigs 41 = .ok (.iconst 0, 1) := by decide +kernel
theorem dX8_twigs_42 : decode cX8_twigs 42 = .ok (.istore_n 2, 1) := by decide +kernel
theorem dX8_twigs_43 : decode cX8_twigs 43 = .ok (.iload_n 2, 1) := by decide +kernel
theorem dX8_twigs_44 : decode cX8_twigs 44 = .ok (.bipush 36, 2) := by decide +kernel
theorem dX8_twigs_46 : decode cX8_twigs 46 = .ok (.if_icmp .ge 41, 3) := by decide +kernel
theorem dX8_twigs_49 : decode cX8_twigs 49 = .ok (.aload_n 0, 1) := by decide +kernel
theorem dX8_twigs_50 : decode cX8_twigs 50 = .ok (.getfield 35, 3) := by decide +kernel
theorem dX8_twigs_53 : decode cX8_twigs 53 = .ok (.bipush 36, 2) := by decide +kernel
theorem dX8_twigs_55 : decode cX8_twigs 55 = .ok (.iload_n 1, 1) := by decide +kernel
theorem dX8_twigs_56 : decode cX8_twigs 56 = .ok (.imul, 1) := by decide +kernel
theorem dX8_twigs_57 : decode cX8_twigs 57 = .ok (.iload_n 2, 1) := by decide +kernel
theorem dX8_twigs_58 : decode cX8_twigs 58 = .ok (.iadd, 1) := by decide +kernel
theorem dX8_twigs_59 : decode cX8_twigs 59 = .ok (.iload_n 2, 1) := by decide +kernel
theorem dX8_twigs_60 : decode cX8_twigs 60 = .ok (.bipush 6, 2) := by decide +kernel
theorem dX8_twigs_62 : decode cX8_twigs 62 = .ok (.aload_n 0, 1) := by decide +kernel
theorem dX8_twigs_63 : decode cX8_twigs 63 = .ok (.getfield 248, 3) := by decide +kernel
theorem dX8_twigs_66 : decode cX8_twigs 66 = .ok (.imul, 1) := by decide +kernel
theorem dX8_twigs_67 : decode cX8_twigs 67 = .ok (.if_icmp .ge 12, 3) := by decide +kernel
theorem dX8_twigs_70 : decode cX8_twigs 70 = .ok (.aload_n 0, 1) := by decide +kernel
theorem dX8_twigs_71 : decode cX8_twigs 71 = .ok (.getfield 84, 3) := by decide +kernel
theorem dX8_twigs_74 : decode cX8_twigs 74 = .ok (.iload_n 2, 1) := by decide +kernel
theorem dX8_twigs_75 : decode cX8_twigs 75 = .ok (.iaload, 1) := by decide +kernel
theorem dX8_twigs_76 : decode cX8_twigs 76 = .ok (.goto 4, 3) := by decide +kernel
theorem dX8_twigs_79 : decode cX8_twigs 79 = .ok (.iconst 0, 1) := by decide +kernel
theorem dX8_twigs_80 : decode cX8_twigs 80 = .ok (.iastore, 1) := by decide +kernel
theorem dX8_twigs_81 : decode cX8_twigs 81 = .ok (.iinc 2 1, 3) := by decide +kernel
theorem dX8_twigs_84 : decode cX8_twigs 84 = .ok (.goto (-41), 3) := by decide +kernel
theorem dX8_twigs_87 : decode cX8_twigs 87 = .ok (.aload_n 0, 1) := by decide +kernel
theorem dX8_twigs_88 : decode cX8_twigs 88 = .ok (.getfield 248, 3) := by decide +kernel
theorem dX8_twigs_91 : decode cX8_twigs 91 = .ok (.ireturn, 1) := by decide +kernel
set_option maxHeartbeats 4000000 in
set_option maxRecDepth 100000 in
theorem c_X8_twigs (l : Launch) (B : Nat) (D : va_G) (cA : Nat → ClassId) (m : Mm) (x0 : Nat) (x1 : Int32) (rZ : Int32) (mZ : Mm) (hf : f_X8_twigs m x0 x1 = some (rZ, mZ)) : Mt l B D cA yX8_twigs cX8_twigs 3 (some .int) 4 94 0 0 [.ref (B + x0), .int x1] m (some (.int rZ)) mZ := by
  refine r_start (by decide) (Nat.le_of_ble_eq_true rfl) ?_
  intro p e s mt args below meth c ls H locs X hr hlocks hnm hR hl hS
  have hx := X.1
  have hb := X.2.1
  have hl : lv_has ls 3 [(0, .ref (B + x0)), (1, .int x1)] := hl
  unfold f_X8_twigs at hf
  refine lv_iload_n hx hb dX8_twigs_0 rfl (lv_at hl 1 rfl) ?_
  obtain ⟨v2, g1, hf⟩ := ob hf
  refine r_callS X kw_X8_161 (c_X8_isTwig l B D cA m x1 v2 g1) ⟨Nat.le_of_ble_eq_true rfl, Nat.le_of_ble_eq_true rfl⟩ hR hS hl.1 rfl rfl (Nat.le_of_ble_eq_true rfl) ⟨Nat.le_of_ble_eq_true rfl, Nat.le_of_ble_eq_true rfl⟩ dX8_twigs_1 (fun H locs hR hS => ?_)
  refine W.eq (g2 := F0 mt 4 ls [.int v2]) rfl ?_
  refine lv_if_ne (tgt := 12) hx hb dX8_twigs_4 (by decide) (fun c3 => ?_) (fun c3 => ?_)
  · rw [if_neg c3] at hf
    refine lv_aload_n hx hb dX8_twigs_12 rfl (lv_at hl 0 rfl) ?_
    obtain ⟨o4, h5, hf⟩ := obO hf
    obtain ⟨t7, g6, hf⟩ := ob hf
    refine r_callV X kw_X8_258 (ci := 8) rfl (c_X8_readsTwig l B D cA m x0 t7.1 t7.2 g6) ⟨Nat.le_of_ble_eq_true rfl, Nat.le_of_ble_eq_true rfl⟩ h5 hR hS hl.1 rfl rfl (Nat.le_of_ble_eq_true rfl) ⟨Nat.le_of_ble_eq_true rfl, Nat.le_of_ble_eq_true rfl⟩ dX8_twigs_13 (fun H locs hR hS => ?_)
    refine W.eq (g2 := F0 mt 16 ls [.int t7.1]) rfl ?_
    refine lv_if_ne (tgt := 27) hx hb dX8_twigs_16 (by decide) (fun c8 => ?_) (fun c8 => ?_)
    · rw [if_neg c8] at hf
      refine lv_aload_n hx hb dX8_twigs_27 rfl (lv_at hl 0 rfl) ?_
      obtain ⟨o9, h10, hf⟩ := obO hf
      obtain ⟨m12, g11, hf⟩ := ob hf
      refine r_callV X kw_X8_140 (ci := 8) rfl (c_X8_leavesState l B D cA t7.2 x0 m12 g11) ⟨Nat.le_of_ble_eq_true rfl, Nat.le_of_ble_eq_true rfl⟩ h10 hR hS hl.1 rfl rfl (Nat.le_of_ble_eq_true rfl) ⟨Nat.le_of_ble_eq_true rfl, Nat.le_of_ble_eq_true rfl⟩ dX8_twigs_28 (fun H locs hR hS => ?_)
      refine W.eq (g2 := F0 mt 31 ls []) rfl ?_
      refine lv_aload_n hx hb dX8_twigs_31 rfl (lv_at hl 0 rfl) ?_
      obtain ⟨v13, g14, hf⟩ := ob hf
      refine gR_X8_32 X hR g14 dX8_twigs_32 ?_
      refine lv_iload_n hx hb dX8_twigs_35 rfl (lv_at hl 1 rfl) ?_
      refine lv_aload_n hx hb dX8_twigs_36 rfl (lv_at hl 0 rfl) ?_
      obtain ⟨v15, g16, hf⟩ := ob hf
      refine gI_X8_248 X hR g16 dX8_twigs_37 ?_
      obtain ⟨m17, g18, hf⟩ := ob hf
      refine r_sI X hR hS g18 dX8_twigs_40 (fun H locs hR hS => ?_)
      refine lv_iconst (v := 0) hx hb dX8_twigs_41 (by decide) ?_
      refine lv_istore_n (lv' := [(2, .int (0 : Int32)), (0, .ref (B + x0)), (1, .int x1)]) hx hb dX8_twigs_42 rfl hl (by decide) rfl (fun ls hl => ?_)
      obtain ⟨e20, hwe20, hf⟩ := ob hf
      refine whl_rule (P := (fun t19 => ∀ (H : Heap) (locs : List Loc) (ls : Array Slot), Rl B D cA t19.2 H → va_S (fun q => B ≤ q) s.heap H locs → lv_has ls 3 [(0, .ref (B + x0)), (1, .int x1), (2, .int t19.1)] → W p l e (rmm 4 0 0 94) s mt args below meth c H locs 0 0 (MQ below (mQ B D cA (some (.int rZ)) mZ) args s 0 0 (fun q => B ≤ q)) (F0 mt 43 ls []))) (Qx := (fun e20 => ∀ (H : Heap) (locs : List Loc) (ls : Array Slot), Rl B D cA e20 H → va_S (fun q => B ≤ q) s.heap H locs → lv_has ls 3 [(0, .ref (B + x0))] → W p l e (rmm 4 0 0 94) s mt args below meth c H locs 0 0 (MQ below (mQ B D cA (some (.int rZ)) mZ) args s 0 0 (fun q => B ≤ q)) (F0 mt 87 ls []))) ?_ FU _ e20 hwe20 ?_ H locs ls hR hS (lv_sub hl [1, 2, 0] rfl)
      · clear hwe20 hf
        intro t19 q21 hf hxlq21 hxrq21 H locs ls hR hS hl
        obtain ⟨z22, m23⟩ := t19
        have hf : f_X8_twigs_L43 m23 x0 x1 z22 = some q21 := hf
        have hR : Rl B D cA m23 H := hR
        have hl : lv_has ls 3 [(0, .ref (B + x0)), (1, .int x1), (2, .int z22)] := hl
        unfold f_X8_twigs_L43 at hf
        refine lv_iload_n hx hb dX8_twigs_43 rfl (lv_at hl 2 rfl) ?_
        refine lv_bipush (v := 36) hx hb dX8_twigs_44 (by decide) ?_
        refine lv_icmp_ge (tgt := 87) hx hb dX8_twigs_46 (by decide) (fun c24 => ?_) (fun c24 => ?_)
        · rw [if_pos c24] at hf
          obtain rfl := Option.some.inj hf
          exact hxrq21 _ rfl H locs ls hR hS (lv_sub hl [0] rfl)
        · rw [if_neg c24] at hf
          refine lv_aload_n hx hb dX8_twigs_49 rfl (lv_at hl 0 rfl) ?_
          obtain ⟨v25, g26, hf⟩ := ob hf
          refine gR_X8_35 X hR g26 dX8_twigs_50 ?_
          refine lv_bipush (v := 36) hx hb dX8_twigs_53 (by decide) ?_
          refine lv_iload_n hx hb dX8_twigs_55 rfl (lv_at hl 1 rfl) ?_
          refine lv_imul hx hb dX8_twigs_56 ?_
          refine lv_iload_n hx hb dX8_twigs_57 rfl (lv_at hl 2 rfl) ?_
          refine lv_iadd hx hb dX8_twigs_58 ?_
          refine lv_iload_n hx hb dX8_twigs_59 rfl (lv_at hl 2 rfl) ?_
          refine lv_bipush (v := 6) hx hb dX8_twigs_60 (by decide) ?_
          refine lv_aload_n hx hb dX8_twigs_62 rfl (lv_at hl 0 rfl) ?_
          obtain ⟨v27, g28, hf⟩ := ob hf
          refine gI_X8_248 X hR g28 dX8_twigs_63 ?_
          refine lv_imul hx hb dX8_twigs_66 ?_
          refine lv_icmp_ge (tgt := 79) hx hb dX8_twigs_67 (by decide) (fun c29 => ?_) (fun c29 => ?_)
          · rw [if_pos c29] at hf
            refine lv_iconst (v := 0) hx hb dX8_twigs_79 (by decide) ?_
            obtain ⟨m30, g31, hf⟩ := ob hf
            refine r_sI X hR hS g31 dX8_twigs_80 (fun H locs hR hS => ?_)
            refine lv_iinc (v := (z22 + 1)) (lv' := [(2, .int (z22 + 1)), (0, .ref (B + x0)), (1, .int x1)]) hx hb dX8_twigs_81 hl (k := 2) rfl (congrArg (fun z => z22 + z) (by decide)) (by decide) rfl (fun ls hl => ?_)
            refine lv_goto (tgt := 43) hx hb dX8_twigs_84 (by decide) ?_
            obtain rfl := Option.some.inj hf
            exact hxlq21 _ rfl H locs ls hR hS (lv_sub hl [1, 2, 0] rfl)
          · rw [if_neg c29] at hf
            refine lv_aload_n hx hb dX8_twigs_70 rfl (lv_at hl 0 rfl) ?_
            obtain ⟨v32, g33, hf⟩ := ob hf
            refine gR_X8_84 X hR g33 dX8_twigs_71 ?_
            refine lv_iload_n hx hb dX8_twigs_74 rfl (lv_at hl 2 rfl) ?_
            obtain ⟨v34, g35, hf⟩ := ob hf
            refine r_lI X hR g35 dX8_twigs_75 ?_
            refine lv_goto (tgt := 80) hx hb dX8_twigs_76 (by decide) ?_
            obtain ⟨m36, g37, hf⟩ := ob hf
            refine r_sI X hR hS g37 dX8_twigs_80 (fun H locs hR hS => ?_)
            refine lv_iinc (v := (z22 + 1)) (lv' := [(2, .int (z22 + 1)), (0, .ref (B + x0)), (1, .int x1)]) hx hb dX8_twigs_81 hl (k := 2) rfl (congrArg (fun z => z22 + z) (by decide)) (by decide) rfl (fun ls hl => ?_)
            refine lv_goto (tgt := 43) hx hb dX8_twigs_84 (by decide) ?_
            obtain rfl := Option.some.inj hf
            exact hxlq21 _ rfl H locs ls hR hS (lv_sub hl [1, 2, 0] rfl)
      · intro H locs ls hR hS hl
        refine lv_aload_n hx hb dX8_twigs_87 rfl (lv_at hl 0 rfl) ?_
        obtain ⟨v38, g39, hf⟩ := ob hf
        refine gI_X8_248 X hR g39 dX8_twigs_88 ?_
        obtain ⟨rfl, rfl⟩ := Prod.mk.inj (Option.some.inj hf)
        exact r_iret X hr hlocks hR hS rfl dX8_twigs_91
    · rw [if_pos c8] at hf
      refine lv_bipush (v := -10) hx hb dX8_twigs_19 (by decide) ?_
      refine lv_aload_n hx hb dX8_twigs_21 rfl (lv_at hl 0 rfl) ?_
      obtain ⟨v40, g41, hf⟩ := ob hf
      refine gI_X8_226 X hR g41 dX8_twigs_22 ?_
      refine lv_isub hx hb dX8_twigs_25 ?_
      obtain ⟨rfl, rfl⟩ := Prod.mk.inj (Option.some.inj hf)
      exact r_iret X hr hlocks hR hS rfl dX8_twigs_26
  · rw [if_pos c3] at hf
    refine lv_aload_n hx hb dX8_twigs_7 rfl (lv_at hl 0 rfl) ?_
    obtain ⟨o42, h43, hf⟩ := obO hf
    obtain ⟨t45, g44, hf⟩ := ob hf
    refine r_callV X kw_X8_134 (ci := 8) rfl (c_X8_bad l B D cA m x0 t45.1 t45.2 g44) ⟨Nat.le_of_ble_eq_true rfl, Nat.le_of_ble_eq_true rfl⟩ h43 hR hS hl.1 rfl rfl (Nat.le_of_ble_eq_true rfl) ⟨Nat.le_of_ble_eq_true rfl, Nat.le_of_ble_eq_true rfl⟩ dX8_twigs_8 (fun H locs hR hS => ?_)
    refine W.eq (g2 := F0 mt 11 ls [.int t45.1]) rfl ?_
    obtain ⟨rfl, rfl⟩ := Prod.mk.inj (Option.some.inj hf)
    exact r_iret X hr hlocks hR hS rfl dX8_twigs_11
/-! ===== TwigMatchesModel.why()I ===== -/
theorem dX8_why_0 : decode cX8_why 0 = .ok (.aload_n 0, 1) := by decide +kernel
theorem dX8_why_1 : decode cX8_why 1 = .ok (.getfield 229, 3) := by decide +kernel
theorem dX8_why_4 : decode cX8_why 4 = .ok (.ireturn, 1) := by decide +kernel
set_option maxHeartbeats 4000000 in
set_option maxRecDepth 100000 in
theorem c_X8_why (l : Launch) (B : Nat) (D : va_G) (cA : Nat → ClassId) (m : Mm) (x0 : Nat) (rZ : Int32) (hf : f_X8_why m x0 = some rZ) : Mt l B D cA yX8_why cX8_why 1 (some .int) 0 0 0 0 [.ref (B + x0)] m (some (.int rZ)) m := by
  refine r_start (by decide) (Nat.le_of_ble_eq_true rfl) ?_
  intro p e s mt args below meth c ls H locs X hr hlocks hnm hR hl hS
  have hx := X.1
  have hb := X.2.1
  have hl : lv_has ls 1 [(0, .ref (B + x0))] := hl
  unfold f_X8_why at hf
  refine lv_aload_n hx hb dX8_why_0 rfl (lv_at hl 0 rfl) ?_
  obtain ⟨v1, g2, hf⟩ := ob hf
  refine gI_X8_229 X hR g2 dX8_why_1 ?_
  obtain rfl := Option.some.inj hf
  exact r_iret X hr hlocks hR hS rfl dX8_why_4
/-! ===== TwigMatchesModel.shows(I)V ===== -/
theorem dX8_shows_0 : decode cX8_shows 0 = .ok (.aload_n 0, 1) := by decide +kernel
theorem dX8_shows_1 : decode cX8_shows 1 = .ok (.getfield 87, 3) := by decide +kernel
theorem dX8_shows_4 : decode cX8_shows 4 = .ok (.aload_n 0, 1) := by decide +kernel
theorem dX8_shows_5 : decode cX8_shows 5 = .ok (.getfield 261, 3) := by decide +kernel
theorem dX8_shows_8 : decode cX8_shows 8 = .ok (.iload_n 1, 1) := by decide +kernel
theorem dX8_shows_9 : decode cX8_shows 9 = .ok (.iastore, 1) := by decide +kernel
theorem dX8_shows_10 : decode cX8_shows 10 = .ok (.aload_n 0, 1) := by decide +kernel
theorem dX8_shows_11 : decode cX8_shows 11 = .ok (.dup, 1) := by decide +kernel
theorem dX8_shows_12 : decode cX8_shows 12 = .ok (.getfield 261, 3) := by decide +kernel
theorem dX8_shows_15 : decode cX8_shows 15 = .ok (.iconst 1, 1) := by decide +kernel
theorem dX8_shows_16 : decode cX8_shows 16 = .ok (.iadd, 1) := by decide +kernel
theorem dX8_shows_17 : decode cX8_shows 17 = .ok (.putfield 261, 3) := by decide +kernel
theorem dX8_shows_20 : decode cX8_shows 20 = .ok (.return_, 1) := by decide +kernel
set_option maxHeartbeats 4000000 in
set_option maxRecDepth 100000 in
theorem c_X8_shows (l : Launch) (B : Nat) (D : va_G) (cA : Nat → ClassId) (m : Mm) (x0 : Nat) (x1 : Int32) (mZ : Mm) (hf : f_X8_shows m x0 x1 = some mZ) : Mt l B D cA yX8_shows cX8_shows 2 none 0 0 0 0 [.ref (B + x0), .int x1] m none mZ := by
  refine r_start (by decide) (Nat.le_of_ble_eq_true rfl) ?_
  intro p e s mt args below meth c ls H locs X hr hlocks hnm hR hl hS
  have hx := X.1
  have hb := X.2.1
  have hl : lv_has ls 2 [(0, .ref (B + x0)), (1, .int x1)] := hl
  unfold f_X8_shows at hf
  refine lv_aload_n hx hb dX8_shows_0 rfl (lv_at hl 0 rfl) ?_
  obtain ⟨v1, g2, hf⟩ := ob hf
  refine gR_X8_87 X hR g2 dX8_shows_1 ?_
  refine lv_aload_n hx hb dX8_shows_4 rfl (lv_at hl 0 rfl) ?_
  obtain ⟨v3, g4, hf⟩ := ob hf
  refine gI_X8_261 X hR g4 dX8_shows_5 ?_
  refine lv_iload_n hx hb dX8_shows_8 rfl (lv_at hl 1 rfl) ?_
  obtain ⟨m5, g6, hf⟩ := ob hf
  refine r_sI X hR hS g6 dX8_shows_9 (fun H locs hR hS => ?_)
  refine lv_aload_n hx hb dX8_shows_10 rfl (lv_at hl 0 rfl) ?_
  refine lv_dup hx hb dX8_shows_11 rfl ?_
  obtain ⟨v7, g8, hf⟩ := ob hf
  refine gI_X8_261 X hR g8 dX8_shows_12 ?_
  refine lv_iconst (v := 1) hx hb dX8_shows_15 (by decide) ?_
  refine lv_iadd hx hb dX8_shows_16 ?_
  obtain ⟨m9, g10, hf⟩ := ob hf
  refine pI_X8_261 X hR hS g10 dX8_shows_17 (fun H locs hR hS => ?_)
  obtain rfl := Option.some.inj hf
  exact r_vret X hr hlocks hR hS dX8_shows_20
/-! ===== TwigMatchesModel.showsTree()V ===== -/
theorem dX8_showsTree_0 : decode cX8_showsTree 0 = .ok (.aload_n 0, 1) := by decide +kernel
theorem dX8_showsTree_1 : decode cX8_showsTree 1 = .ok (.iconst 0, 1) := by decide +kernel
theorem dX8_showsTree_2 : decode cX8_showsTree 2 = .ok (.putfield 261, 3) := by decide +kernel
theorem dX8_showsTree_5 : decode cX8_showsTree 5 = .ok (.iconst 0, 1) := by decide +kernel
theorem dX8_showsTree_6 : decode cX8_showsTree 6 = .ok (.istore_n 1, 1) := by decide +kernel
theorem dX8_showsTree_7 : decode cX8_showsTree 7 = .ok (.iload_n 1, 1) := by decide +kernel
theorem dX8_showsTree_8 : decode cX8_showsTree 8 = .ok (.aload_n 0, 1) := by decide +kernel
theorem dX8_showsTree_9 : decode cX8_showsTree 9 = .ok (.getfield 13, 3) := by decide +kernel
theorem dX8_showsTree_12 : decode cX8_showsTree 12 = .ok (.if_icmp .ge 111, 3) := by decide +kernel
theorem dX8_showsTree_15 : decode cX8_showsTree 15 = .ok (.iload_n 1, 1) := by decide +kernel
theorem dX8_showsTree_16 : decode cX8_showsTree 16 = .ok (.ifCond .le 21, 3) := by decide +kernel
theorem dX8_showsTree_19 : decode cX8_showsTree 19 = .ok (.aload_n 0, 1) := by decide +kernel
theorem dX8_showsTree_20 : decode cX8_showsTree 20 = .ok (.getfield 23, 3) := by decide +kernel
theorem dX8_showsTree_23 : decode cX8_showsTree 23 = .ok (.iload_n 1, 1) := by decide +kernel
theorem dX8_showsTree_24 : decode cX8_showsTree 24 = .ok (.iconst 1, 1) := by decide +kernel
theorem dX8_showsTree_25 : decode cX8_showsTree 25 = .ok (.isub, 1) := by decide +kernel
theorem dX8_showsTree_26 : decode cX8_showsTree 26 = .ok (.iaload, 1) := by decide +kernel
theorem dX8_showsTree_27 : decode cX8_showsTree 27 = .ok (.aload_n 0, 1) := by decide +kernel
theorem dX8_showsTree_28 : decode cX8_showsTree 28 = .ok (.getfield 23, 3) := by decide +kernel
theorem dX8_showsTree_31 : decode cX8_showsTree 31 = .ok (.iload_n 1, 1) := by decide +kernel
theorem dX8_showsTree_32 : decode cX8_showsTree 32 = .ok (.iaload, 1) := by decide +kernel
theorem dX8_showsTree_33 : decode cX8_showsTree 33 = .ok (.isub, 1) := by decide +kernel
theorem dX8_showsTree_34 : decode cX8_showsTree 34 = .ok (.goto 4, 3) := by decide +kernel
theorem dX8_showsTree_37 : decode cX8_showsTree 37 = .ok (.iconst 0, 1) := by decide +kernel
theorem dX8_showsTree_38 : decode cX8_showsTree 38 = .ok (.istore_n 2, 1) := by decide +kernel
theorem dX8_showsTree_39 : decode cX8_showsTree 39 = .ok (.iload_n 2, 1) := by decide +kernel
theorem dX8_showsTree_40 : decode cX8_showsTree 40 = .ok (.ifCond .le 15, 3) := by decide +kernel
theorem dX8_showsTree_43 : decode cX8_showsTree 43 = .ok (.aload_n 0, 1) := by decide +kernel
theorem dX8_showsTree_44 : decode cX8_showsTree 44 = .ok (.bipush 41, 2) := by decide +kernel
theorem dX8_showsTree_46 : decode cX8_showsTree 46 = .ok (.invokevirtual 264, 3) := by decide +kernel
theorem dX8_showsTree_49 : decode cX8_showsTree 49 = .ok (.iinc 2 (-1), 3) := by decide +kernel
theorem dX8_showsTree_52 : decode cX8_showsTree 52 = .ok (.goto (-13), 3) := by decide +kernel
theorem dX8_showsTree_55 : decode cX8_showsTree 55 = .ok (.iload_n 1, 1) := by decide +kernel
theorem dX8_showsTree_56 : decode cX8_showsTree 56 = .ok (.ifCond .le 26, 3) := by decide +kernel
theorem dX8_showsTree_59 : decode cX8_showsTree 59 = .ok (.aload_n 0, 1) := by decide +kernel
theorem dX8_showsTree_60 : decode cX8_showsTree 60 = .ok (.getfield 23, 3) := by decide +kernel
theorem dX8_showsTree_63 : decode cX8_showsTree 63 = .ok (.iload_n 1, 1) := by decide +kernel
theorem dX8_showsTree_64 : decode cX8_showsTree 64 = .ok (.iaload, 1) := by decide +kernel
theorem dX8_showsTree_65 : decode cX8_showsTree 65 = .ok (.aload_n 0, 1) := by decide +kernel
theorem dX8_showsTree_66 : decode cX8_showsTree 66 = .ok (.getfield 23, 3) := by decide +kernel
theorem dX8_showsTree_69 : decode cX8_showsTree 69 = .ok (.iload_n 1, 1) := by decide +kernel
theorem dX8_showsTree_70 : decode cX8_showsTree 70 = .ok (.iconst 1, 1) := by decide +kernel
theorem dX8_showsTree_71 : decode cX8_showsTree 71 = .ok (.isub, 1) := by decide +kernel
theorem dX8_showsTree_72 : decode cX8_showsTree 72 = .ok (.iaload, 1) := by decide +kernel
theorem dX8_showsTree_73 : decode cX8_showsTree 73 = .ok (.if_icmp .le 9, 3) := by decide +kernel
theorem dX8_showsTree_76 : decode cX8_showsTree 76 = .ok (.aload_n 0, 1) := by decide +kernel
theorem dX8_showsTree_77 : decode cX8_showsTree 77 = .ok (.bipush 40, 2) := by decide +kernel
theorem dX8_showsTree_79 : decode cX8_showsTree 79 = .ok (.invokevirtual 264, 3) := by decide +kernel
theorem dX8_showsTree_82 : decode cX8_showsTree 82 = .ok (.aload_n 0, 1) := by decide +kernel
theorem dX8_showsTree_83 : decode cX8_showsTree 83 = .ok (.bipush 97, 2) := by decide +kernel
theorem dX8_showsTree_85 : decode cX8_showsTree 85 = .ok (.aload_n 0, 1) := by decide +kernel
theorem dX8_showsTree_86 : decode cX8_showsTree 86 = .ok (.getfield 17, 3) := by decide +kernel
theorem dX8_showsTree_89 : decode cX8_showsTree 89 = .ok (.iload_n 1, 1) := by decide +kernel
theorem dX8_showsTree_90 : decode cX8_showsTree 90 = .ok (.iaload, 1) := by decide +kernel
theorem dX8_showsTree_91 : decode cX8_showsTree 91 = .ok (.iadd, 1) := by decide +kernel
theorem dX8_showsTree_92 : decode cX8_showsTree 92 = .ok (.invokevirtual 264, 3) := by decide +kernel
theorem dX8_showsTree_95 : decode cX8_showsTree 95 = .ok (.aload_n 0, 1) := by decide +kernel
theorem dX8_showsTree_96 : decode cX8_showsTree 96 = .ok (.getfield 20, 3) := by decide +kernel
theorem dX8_showsTree_99 : decode cX8_showsTree 99 = .ok (.iload_n 1, 1) := by decide +kernel
theorem dX8_showsTree_100 : decode cX8_showsTree 100 = .ok (.iaload, 1) := by decide +kernel
theorem dX8_showsTree_101 : decode cX8_showsTree 101 = .ok (.ifCond .le 16, 3) := by decide +kernel
theorem dX8_showsTree_104 : decode cX8_showsTree 104 = .ok (.aload_n 0, 1) := by decide +kernel
theorem dX8_showsTree_105 : decode cX8_showsTree 105 = .ok (.bipush 48, 2) := by decide +kernel
theorem dX8_showsTree_107 : decode cX8_showsTree 107 = .ok (.aload_n 0, 1) := by decide +kernel
theorem dX8_showsTree_108 : decode cX8_showsTree 108 = .ok (.getfield 20, 3) := by decide +kernel
theorem dX8_showsTree_111 : decode cX8_showsTree 111 = .ok (.iload_n 1, 1) := by decide +kernel
theorem dX8_showsTree_112 : decode cX8_showsTree 112 = .ok (.iaload, 1) := by decide +kernel
theorem dX8_showsTree_113 : decode cX8_showsTree 113 = .ok (.iadd, 1) := by decide +kernel
theorem dX8_showsTree_114 : decode cX8_showsTree 114 = .ok (.invokevirtual 264, 3) := by decide +kernel
theorem dX8_showsTree_117 : decode cX8_showsTree 117 = .ok (.iinc 1 1, 3) := by decide +kernel
theorem dX8_showsTree_120 : decode cX8_showsTree 120 = .ok (.goto (-113), 3) := by decide +kernel
theorem dX8_showsTree_123 : decode cX8_showsTree 123 = .ok (.aload_n 0, 1) := by decide +kernel
theorem dX8_showsTree_124 : decode cX8_showsTree 124 = .ok (.getfield 23, 3) := by decide +kernel
theorem dX8_showsTree_127 : decode cX8_showsTree 127 = .ok (.aload_n 0, 1) := by decide +kernel
theorem dX8_showsTree_128 : decode cX8_showsTree 128 = .ok (.getfield 13, 3) := by decide +kernel
theorem dX8_showsTree_131 : decode cX8_showsTree 131 = .ok (.iconst 1, 1) := by decide +kernel
theorem dX8_showsTree_132 : decode cX8_showsTree 132 = .ok (.isub, 1) := by decide +kernel
theorem dX8_showsTree_133 : decode cX8_showsTree 133 = .ok (.iaload, 1) := by decide +kernel
theorem dX8_showsTree_134 : decode cX8_showsTree 134 = .ok (.istore_n 1, 1) := by decide +kernel
theorem dX8_showsTree_135 : decode cX8_showsTree 135 = .ok (.iload_n 1, 1) := by decide +kernel
theorem dX8_showsTree_136 : decode cX8_showsTree 136 = .ok (.iconst 1, 1) := by decide +kernel
theorem dX8_showsTree_137 : decode cX8_showsTree 137 = .ok (.if_icmp .le 15, 3) := by decide +kernel
theorem dX8_showsTree_140 : decode cX8_showsTree 140 = .ok (.aload_n 0, 1) := by decide +kernel
theorem dX8_showsTree_141 : decode cX8_showsTree 141 = .ok (.bipush 41, 2) := by decide +kernel
theorem dX8_showsTree_143 : decode cX8_showsTree 143 = .ok (.invokevirtual 264, 3) := by decide +kernel
theorem dX8_showsTree_146 : decode cX8_showsTree 146 = .ok (.iinc 1 (-1), 3) := by decide +kernel
theorem dX8_showsTree_149 : decode cX8_showsTree 149 = .ok (.goto (-14), 3) := by decide +kernel
theorem dX8_showsTree_152 : decode cX8_showsTree 152 = .ok (.return_, 1) := by decide +kernel
set_option maxHeartbeats 4000000 in
set_option maxRecDepth 100000 in
theorem c_X8_showsTree (l : Launch) (B : Nat) (D : va_G) (cA : Nat → ClassId) (m : Mm) (x0 : Nat) (mZ : Mm) (hf : f_X8_showsTree m x0 = some mZ) : Mt l B D cA yX8_showsTree cX8_showsTree 3 none 1 21 0 0 [.ref (B + x0)] m none mZ := by
  refine r_start (by decide) (Nat.le_of_ble_eq_true rfl) ?_
  intro p e s mt args below meth c ls H locs X hr hlocks hnm hR hl hS
  have hx := X.1
  have hb := X.2.1
  have hl : lv_has ls 3 [(0, .ref (B + x0))] := hl
  unfold f_X8_showsTree at hf
  refine lv_aload_n hx hb dX8_showsTree_0 rfl (lv_at hl 0 rfl) ?_
  refine lv_iconst (v := 0) hx hb dX8_showsTree_1 (by decide) ?_
  obtain ⟨m1, g2, hf⟩ := ob hf
  refine pI_X8_261 X hR hS g2 dX8_showsTree_2 (fun H locs hR hS => ?_)
  refine lv_iconst (v := 0) hx hb dX8_showsTree_5 (by decide) ?_
  refine lv_istore_n (lv' := [(1, .int (0 : Int32)), (0, .ref (B + x0))]) hx hb dX8_showsTree_6 rfl hl (by decide) rfl (fun ls hl => ?_)
  obtain ⟨e4, hwe4, hf⟩ := ob hf
  refine whl_rule (P := (fun t3 => ∀ (H : Heap) (locs : List Loc) (ls : Array Slot), Rl B D cA t3.2 H → va_S (fun q => B ≤ q) s.heap H locs → lv_has ls 3 [(0, .ref (B + x0)), (1, .int t3.1)] → W p l e (rmm 1 0 0 21) s mt args below meth c H locs 0 0 (MQ below (mQ B D cA none mZ) args s 0 0 (fun q => B ≤ q)) (F0 mt 7 ls []))) (Qx := (fun e4 => ∀ (H : Heap) (locs : List Loc) (ls : Array Slot), Rl B D cA e4 H → va_S (fun q => B ≤ q) s.heap H locs → lv_has ls 3 [(0, .ref (B + x0))] → W p l e (rmm 1 0 0 21) s mt args below meth c H locs 0 0 (MQ below (mQ B D cA none mZ) args s 0 0 (fun q => B ≤ q)) (F0 mt 123 ls []))) ?_ FU _ e4 hwe4 ?_ H locs ls hR hS (lv_sub hl [1, 0] rfl)
  · clear hwe4 hf
    intro t3 q5 hf hxlq5 hxrq5 H locs ls hR hS hl
    obtain ⟨z6, m7⟩ := t3
    have hf : f_X8_showsTree_L7 m7 x0 z6 = some q5 := hf
    have hR : Rl B D cA m7 H := hR
    have hl : lv_has ls 3 [(0, .ref (B + x0)), (1, .int z6)] := hl
    unfold f_X8_showsTree_L7 at hf
    refine lv_iload_n hx hb dX8_showsTree_7 rfl (lv_at hl 1 rfl) ?_
    refine lv_aload_n hx hb dX8_showsTree_8 rfl (lv_at hl 0 rfl) ?_
    obtain ⟨v8, g9, hf⟩ := ob hf
    refine gI_X8_13 X hR g9 dX8_showsTree_9 ?_
    refine lv_icmp_ge (tgt := 123) hx hb dX8_showsTree_12 (by decide) (fun c10 => ?_) (fun c10 => ?_)
    · rw [if_pos c10] at hf
      obtain rfl := Option.some.inj hf
      exact hxrq5 _ rfl H locs ls hR hS (lv_sub hl [0] rfl)
    · rw [if_neg c10] at hf
      refine lv_iload_n hx hb dX8_showsTree_15 rfl (lv_at hl 1 rfl) ?_
      obtain ⟨t11, hjt11, hf⟩ := ob hf
      have hJt11 : ∀ (H : Heap) (locs : List Loc) (ls : Array Slot), Rl B D cA m7 H → va_S (fun q => B ≤ q) s.heap H locs → lv_has ls 3 [(0, .ref (B + x0)), (1, .int z6)] → W p l e (rmm 1 0 0 21) s mt args below meth c H locs 0 0 (MQ below (mQ B D cA none mZ) args s 0 0 (fun q => B ≤ q)) (F0 mt 38 ls [.int t11]) := by
        intro H locs ls hR hS hl
        refine lv_istore_n (lv' := [(2, .int t11), (0, .ref (B + x0)), (1, .int z6)]) hx hb dX8_showsTree_38 rfl hl (by decide) rfl (fun ls hl => ?_)
        obtain ⟨e22, hwe22, hf⟩ := ob hf
        refine whl_rule (P := (fun t21 => ∀ (H : Heap) (locs : List Loc) (ls : Array Slot), Rl B D cA t21.2 H → va_S (fun q => B ≤ q) s.heap H locs → lv_has ls 3 [(0, .ref (B + x0)), (1, .int z6), (2, .int t21.1)] → W p l e (rmm 1 0 0 21) s mt args below meth c H locs 0 0 (MQ below (mQ B D cA none mZ) args s 0 0 (fun q => B ≤ q)) (F0 mt 39 ls []))) (Qx := (fun e22 => ∀ (H : Heap) (locs : List Loc) (ls : Array Slot), Rl B D cA e22 H → va_S (fun q => B ≤ q) s.heap H locs → lv_has ls 3 [(0, .ref (B + x0)), (1, .int z6)] → W p l e (rmm 1 0 0 21) s mt args below meth c H locs 0 0 (MQ below (mQ B D cA none mZ) args s 0 0 (fun q => B ≤ q)) (F0 mt 55 ls []))) ?_ FU _ e22 hwe22 ?_ H locs ls hR hS (lv_sub hl [1, 2, 0] rfl)
        · clear hwe22 hf
          intro t21 q23 hf hxlq23 hxrq23 H locs ls hR hS hl
          obtain ⟨z24, m25⟩ := t21
          have hf : f_X8_showsTree_L39 m25 x0 z6 z24 = some q23 := hf
          have hR : Rl B D cA m25 H := hR
          have hl : lv_has ls 3 [(0, .ref (B + x0)), (1, .int z6), (2, .int z24)] := hl
          unfold f_X8_showsTree_L39 at hf
          refine lv_iload_n hx hb dX8_showsTree_39 rfl (lv_at hl 2 rfl) ?_
          refine lv_if_le (tgt := 55) hx hb dX8_showsTree_40 (by decide) (fun c26 => ?_) (fun c26 => ?_)
          · rw [if_pos c26] at hf
            obtain rfl := Option.some.inj hf
            exact hxrq23 _ rfl H locs ls hR hS (lv_sub hl [0, 1] rfl)
          · rw [if_neg c26] at hf
            refine lv_aload_n hx hb dX8_showsTree_43 rfl (lv_at hl 0 rfl) ?_
            refine lv_bipush (v := 41) hx hb dX8_showsTree_44 (by decide) ?_
            obtain ⟨o27, h28, hf⟩ := obO hf
            obtain ⟨m30, g29, hf⟩ := ob hf
            refine r_callV X kw_X8_264 (ci := 8) rfl (c_X8_shows l B D cA m25 x0 (41 : Int32) m30 g29) ⟨Nat.le_of_ble_eq_true rfl, Nat.le_of_ble_eq_true rfl⟩ h28 hR hS hl.1 rfl rfl (Nat.le_of_ble_eq_true rfl) ⟨Nat.le_of_ble_eq_true rfl, Nat.le_of_ble_eq_true rfl⟩ dX8_showsTree_46 (fun H locs hR hS => ?_)
            refine W.eq (g2 := F0 mt 49 ls []) rfl ?_
            refine lv_iinc (v := (z24 + (-1))) (lv' := [(2, .int (z24 + (-1))), (0, .ref (B + x0)), (1, .int z6)]) hx hb dX8_showsTree_49 hl (k := 2) rfl (congrArg (fun z => z24 + z) (by decide)) (by decide) rfl (fun ls hl => ?_)
            refine lv_goto (tgt := 39) hx hb dX8_showsTree_52 (by decide) ?_
            obtain rfl := Option.some.inj hf
            exact hxlq23 _ rfl H locs ls hR hS (lv_sub hl [1, 2, 0] rfl)
        · intro H locs ls hR hS hl
          refine lv_iload_n hx hb dX8_showsTree_55 rfl (lv_at hl 1 rfl) ?_
          obtain ⟨t31, hjt31, hf⟩ := ob hf
          have hJt31 : ∀ (H : Heap) (locs : List Loc) (ls : Array Slot), Rl B D cA t31 H → va_S (fun q => B ≤ q) s.heap H locs → lv_has ls 3 [(0, .ref (B + x0)), (1, .int z6)] → W p l e (rmm 1 0 0 21) s mt args below meth c H locs 0 0 (MQ below (mQ B D cA none mZ) args s 0 0 (fun q => B ≤ q)) (F0 mt 82 ls []) := by
            intro H locs ls hR hS hl
            refine lv_aload_n hx hb dX8_showsTree_82 rfl (lv_at hl 0 rfl) ?_
            refine lv_bipush (v := 97) hx hb dX8_showsTree_83 (by decide) ?_
            refine lv_aload_n hx hb dX8_showsTree_85 rfl (lv_at hl 0 rfl) ?_
            obtain ⟨v46, g47, hf⟩ := ob hf
            refine gR_X8_17 X hR g47 dX8_showsTree_86 ?_
            refine lv_iload_n hx hb dX8_showsTree_89 rfl (lv_at hl 1 rfl) ?_
            obtain ⟨v48, g49, hf⟩ := ob hf
            refine r_lI X hR g49 dX8_showsTree_90 ?_
            refine lv_iadd hx hb dX8_showsTree_91 ?_
            obtain ⟨o50, h51, hf⟩ := obO hf
            obtain ⟨m53, g52, hf⟩ := ob hf
            refine r_callV X kw_X8_264 (ci := 8) rfl (c_X8_shows l B D cA t31 x0 ((97 : Int32) + v48) m53 g52) ⟨Nat.le_of_ble_eq_true rfl, Nat.le_of_ble_eq_true rfl⟩ h51 hR hS hl.1 rfl rfl (Nat.le_of_ble_eq_true rfl) ⟨Nat.le_of_ble_eq_true rfl, Nat.le_of_ble_eq_true rfl⟩ dX8_showsTree_92 (fun H locs hR hS => ?_)
            refine W.eq (g2 := F0 mt 95 ls []) rfl ?_
            refine lv_aload_n hx hb dX8_showsTree_95 rfl (lv_at hl 0 rfl) ?_
            obtain ⟨v54, g55, hf⟩ := ob hf
            refine gR_X8_20 X hR g55 dX8_showsTree_96 ?_
            refine lv_iload_n hx hb dX8_showsTree_99 rfl (lv_at hl 1 rfl) ?_
            obtain ⟨v56, g57, hf⟩ := ob hf
            refine r_lI X hR g57 dX8_showsTree_100 ?_
            refine lv_if_le (tgt := 117) hx hb dX8_showsTree_101 (by decide) (fun c58 => ?_) (fun c58 => ?_)
            · rw [if_pos c58] at hf
              refine lv_iinc (v := (z6 + 1)) (lv' := [(1, .int (z6 + 1)), (0, .ref (B + x0))]) hx hb dX8_showsTree_117 hl (k := 1) rfl (congrArg (fun z => z6 + z) (by decide)) (by decide) rfl (fun ls hl => ?_)
              refine lv_goto (tgt := 7) hx hb dX8_showsTree_120 (by decide) ?_
              obtain rfl := Option.some.inj hf
              exact hxlq5 _ rfl H locs ls hR hS (lv_sub hl [1, 0] rfl)
            · rw [if_neg c58] at hf
              refine lv_aload_n hx hb dX8_showsTree_104 rfl (lv_at hl 0 rfl) ?_
              refine lv_bipush (v := 48) hx hb dX8_showsTree_105 (by decide) ?_
              refine lv_aload_n hx hb dX8_showsTree_107 rfl (lv_at hl 0 rfl) ?_
              obtain ⟨v59, g60, hf⟩ := ob hf
              refine gR_X8_20 X hR g60 dX8_showsTree_108 ?_
              refine lv_iload_n hx hb dX8_showsTree_111 rfl (lv_at hl 1 rfl) ?_
              obtain ⟨v61, g62, hf⟩ := ob hf
              refine r_lI X hR g62 dX8_showsTree_112 ?_
              refine lv_iadd hx hb dX8_showsTree_113 ?_
              obtain ⟨o63, h64, hf⟩ := obO hf
              obtain ⟨m66, g65, hf⟩ := ob hf
              refine r_callV X kw_X8_264 (ci := 8) rfl (c_X8_shows l B D cA m53 x0 ((48 : Int32) + v61) m66 g65) ⟨Nat.le_of_ble_eq_true rfl, Nat.le_of_ble_eq_true rfl⟩ h64 hR hS hl.1 rfl rfl (Nat.le_of_ble_eq_true rfl) ⟨Nat.le_of_ble_eq_true rfl, Nat.le_of_ble_eq_true rfl⟩ dX8_showsTree_114 (fun H locs hR hS => ?_)
              refine W.eq (g2 := F0 mt 117 ls []) rfl ?_
              refine lv_iinc (v := (z6 + 1)) (lv' := [(1, .int (z6 + 1)), (0, .ref (B + x0))]) hx hb dX8_showsTree_117 hl (k := 1) rfl (congrArg (fun z => z6 + z) (by decide)) (by decide) rfl (fun ls hl => ?_)
              refine lv_goto (tgt := 7) hx hb dX8_showsTree_120 (by decide) ?_
              obtain rfl := Option.some.inj hf
              exact hxlq5 _ rfl H locs ls hR hS (lv_sub hl [1, 0] rfl)
          have hf := hjt31
          clear hjt31
          refine lv_if_le (tgt := 82) hx hb dX8_showsTree_56 (by decide) (fun c32 => ?_) (fun c32 => ?_)
          · rw [if_pos c32] at hf
            obtain rfl := Option.some.inj hf
            exact hJt31 H locs ls hR hS (lv_sub hl [0, 1] rfl)
          · rw [if_neg c32] at hf
            refine lv_aload_n hx hb dX8_showsTree_59 rfl (lv_at hl 0 rfl) ?_
            obtain ⟨v33, g34, hf⟩ := ob hf
            refine gR_X8_23 X hR g34 dX8_showsTree_60 ?_
            refine lv_iload_n hx hb dX8_showsTree_63 rfl (lv_at hl 1 rfl) ?_
            obtain ⟨v35, g36, hf⟩ := ob hf
            refine r_lI X hR g36 dX8_showsTree_64 ?_
            refine lv_aload_n hx hb dX8_showsTree_65 rfl (lv_at hl 0 rfl) ?_
            obtain ⟨v37, g38, hf⟩ := ob hf
            refine gR_X8_23 X hR g38 dX8_showsTree_66 ?_
            refine lv_iload_n hx hb dX8_showsTree_69 rfl (lv_at hl 1 rfl) ?_
            refine lv_iconst (v := 1) hx hb dX8_showsTree_70 (by decide) ?_
            refine lv_isub hx hb dX8_showsTree_71 ?_
            obtain ⟨v39, g40, hf⟩ := ob hf
            refine r_lI X hR g40 dX8_showsTree_72 ?_
            refine lv_icmp_le (tgt := 82) hx hb dX8_showsTree_73 (by decide) (fun c41 => ?_) (fun c41 => ?_)
            · rw [if_pos c41] at hf
              obtain rfl := Option.some.inj hf
              exact hJt31 H locs ls hR hS (lv_sub hl [0, 1] rfl)
            · rw [if_neg c41] at hf
              refine lv_aload_n hx hb dX8_showsTree_76 rfl (lv_at hl 0 rfl) ?_
              refine lv_bipush (v := 40) hx hb dX8_showsTree_77 (by decide) ?_
              obtain ⟨o42, h43, hf⟩ := obO hf
              obtain ⟨m45, g44, hf⟩ := ob hf
              refine r_callV X kw_X8_264 (ci := 8) rfl (c_X8_shows l B D cA e22 x0 (40 : Int32) m45 g44) ⟨Nat.le_of_ble_eq_true rfl, Nat.le_of_ble_eq_true rfl⟩ h43 hR hS hl.1 rfl rfl (Nat.le_of_ble_eq_true rfl) ⟨Nat.le_of_ble_eq_true rfl, Nat.le_of_ble_eq_true rfl⟩ dX8_showsTree_79 (fun H locs hR hS => ?_)
              refine W.eq (g2 := F0 mt 82 ls []) rfl ?_
              obtain rfl := Option.some.inj hf
              exact hJt31 H locs ls hR hS (lv_sub hl [0, 1] rfl)
      have hf := hjt11
      clear hjt11
      refine lv_if_le (tgt := 37) hx hb dX8_showsTree_16 (by decide) (fun c12 => ?_) (fun c12 => ?_)
      · rw [if_pos c12] at hf
        refine lv_iconst (v := 0) hx hb dX8_showsTree_37 (by decide) ?_
        obtain rfl := Option.some.inj hf
        exact hJt11 H locs ls hR hS (lv_sub hl [0, 1] rfl)
      · rw [if_neg c12] at hf
        refine lv_aload_n hx hb dX8_showsTree_19 rfl (lv_at hl 0 rfl) ?_
        obtain ⟨v13, g14, hf⟩ := ob hf
        refine gR_X8_23 X hR g14 dX8_showsTree_20 ?_
        refine lv_iload_n hx hb dX8_showsTree_23 rfl (lv_at hl 1 rfl) ?_
        refine lv_iconst (v := 1) hx hb dX8_showsTree_24 (by decide) ?_
        refine lv_isub hx hb dX8_showsTree_25 ?_
        obtain ⟨v15, g16, hf⟩ := ob hf
        refine r_lI X hR g16 dX8_showsTree_26 ?_
        refine lv_aload_n hx hb dX8_showsTree_27 rfl (lv_at hl 0 rfl) ?_
        obtain ⟨v17, g18, hf⟩ := ob hf
        refine gR_X8_23 X hR g18 dX8_showsTree_28 ?_
        refine lv_iload_n hx hb dX8_showsTree_31 rfl (lv_at hl 1 rfl) ?_
        obtain ⟨v19, g20, hf⟩ := ob hf
        refine r_lI X hR g20 dX8_showsTree_32 ?_
        refine lv_isub hx hb dX8_showsTree_33 ?_
        refine lv_goto (tgt := 38) hx hb dX8_showsTree_34 (by decide) ?_
        obtain rfl := Option.some.inj hf
        exact hJt11 H locs ls hR hS (lv_sub hl [0, 1] rfl)
  · intro H locs ls hR hS hl
    refine lv_aload_n hx hb dX8_showsTree_123 rfl (lv_at hl 0 rfl) ?_
    obtain ⟨v67, g68, hf⟩ := ob hf
    refine gR_X8_23 X hR g68 dX8_showsTree_124 ?_
    refine lv_aload_n hx hb dX8_showsTree_127 rfl (lv_at hl 0 rfl) ?_
    obtain ⟨v69, g70, hf⟩ := ob hf
    refine gI_X8_13 X hR g70 dX8_showsTree_128 ?_
    refine lv_iconst (v := 1) hx hb dX8_showsTree_131 (by decide) ?_
    refine lv_isub hx hb dX8_showsTree_132 ?_
    obtain ⟨v71, g72, hf⟩ := ob hf
    refine r_lI X hR g72 dX8_showsTree_133 ?_
    refine lv_istore_n (lv' := [(1, .int v71), (0, .ref (B + x0))]) hx hb dX8_showsTree_134 rfl hl (by decide) rfl (fun ls hl => ?_)
    obtain ⟨e74, hwe74, hf⟩ := ob hf
    refine whl_rule (P := (fun t73 => ∀ (H : Heap) (locs : List Loc) (ls : Array Slot), Rl B D cA t73.2 H → va_S (fun q => B ≤ q) s.heap H locs → lv_has ls 3 [(0, .ref (B + x0)), (1, .int t73.1)] → W p l e (rmm 1 0 0 21) s mt args below meth c H locs 0 0 (MQ below (mQ B D cA none mZ) args s 0 0 (fun q => B ≤ q)) (F0 mt 135 ls []))) (Qx := (fun e74 => ∀ (H : Heap) (locs : List Loc) (ls : Array Slot), Rl B D cA e74 H → va_S (fun q => B ≤ q) s.heap H locs → lv_has ls 3 [] → W p l e (rmm 1 0 0 21) s mt args below meth c H locs 0 0 (MQ below (mQ B D cA none mZ) args s 0 0 (fun q => B ≤ q)) (F0 mt 152 ls []))) ?_ FU _ e74 hwe74 ?_ H locs ls hR hS (lv_sub hl [1, 0] rfl)
    · clear hwe74 hf
      intro t73 q75 hf hxlq75 hxrq75 H locs ls hR hS hl
      obtain ⟨z76, m77⟩ := t73
      have hf : f_X8_showsTree_L135 m77 x0 z76 = some q75 := hf
      have hR : Rl B D cA m77 H := hR
      have hl : lv_has ls 3 [(0, .ref (B + x0)), (1, .int z76)] := hl
      unfold f_X8_showsTree_L135 at hf
      refine lv_iload_n hx hb dX8_showsTree_135 rfl (lv_at hl 1 rfl) ?_
      refine lv_iconst (v := 1) hx hb dX8_showsTree_136 (by decide) ?_
      refine lv_icmp_le (tgt := 152) hx hb dX8_showsTree_137 (by decide) (fun c78 => ?_) (fun c78 => ?_)
      · rw [if_pos c78] at hf
        obtain rfl := Option.some.inj hf
        exact hxrq75 _ rfl H locs ls hR hS (lv_sub hl [] rfl)
      · rw [if_neg c78] at hf
        refine lv_aload_n hx hb dX8_showsTree_140 rfl (lv_at hl 0 rfl) ?_
        refine lv_bipush (v := 41) hx hb dX8_showsTree_141 (by decide) ?_
        obtain ⟨o79, h80, hf⟩ := obO hf
        obtain ⟨m82, g81, hf⟩ := ob hf
        refine r_callV X kw_X8_264 (ci := 8) rfl (c_X8_shows l B D cA m77 x0 (41 : Int32) m82 g81) ⟨Nat.le_of_ble_eq_true rfl, Nat.le_of_ble_eq_true rfl⟩ h80 hR hS hl.1 rfl rfl (Nat.le_of_ble_eq_true rfl) ⟨Nat.le_of_ble_eq_true rfl, Nat.le_of_ble_eq_true rfl⟩ dX8_showsTree_143 (fun H locs hR hS => ?_)
        refine W.eq (g2 := F0 mt 146 ls []) rfl ?_
        refine lv_iinc (v := (z76 + (-1))) (lv' := [(1, .int (z76 + (-1))), (0, .ref (B + x0))]) hx hb dX8_showsTree_146 hl (k := 1) rfl (congrArg (fun z => z76 + z) (by decide)) (by decide) rfl (fun ls hl => ?_)
        refine lv_goto (tgt := 135) hx hb dX8_showsTree_149 (by decide) ?_
        obtain rfl := Option.some.inj hf
        exact hxlq75 _ rfl H locs ls hR hS (lv_sub hl [1, 0] rfl)
    · intro H locs ls hR hS hl
      obtain rfl := Option.some.inj hf
      exact r_vret X hr hlocks hR hS dX8_showsTree_152
/-! ===== TwigMatchesModel.depth(II)I ===== -/
theorem dX8_depth_0 : decode cX8_depth 0 = .ok (.iconst 0, 1) := by decide +kernel
theorem dX8_depth_1 : decode cX8_depth 1 = .ok (.istore_n 3, 1) := by decide +kernel
theorem dX8_depth_2 : decode cX8_depth 2 = .ok (.iload_n 2, 1) := by decide +kernel
theorem dX8_depth_3 : decode cX8_depth 3 = .ok (.istore 4, 2) := by decide +kernel
theorem dX8_depth_5 : decode cX8_depth 5 = .ok (.iload 4, 2) := by decide +kernel
theorem dX8_depth_7 : decode cX8_depth 7 = .ok (.iconst (-1), 1) := by decide +kernel
theorem dX8_depth_8 : decode cX8_depth 8 = .ok (.if_icmp .eq 18, 3) := by decide +kernel
theorem dX8_depth_11 : decode cX8_depth 11 = .ok (.iinc 3 1, 3) := by decide +kernel
theorem dX8_depth_14 : decode cX8_depth 14 = .ok (.aload_n 0, 1) := by decide +kernel
theorem dX8_depth_15 : decode cX8_depth 15 = .ok (.iload_n 1, 1) := by decide +kernel
theorem dX8_depth_16 : decode cX8_depth 16 = .ok (.iload 4, 2) := by decide +kernel
theorem dX8_depth_18 : decode cX8_depth 18 = .ok (.invokevirtual 113, 3) := by decide +kernel
theorem dX8_depth_21 : decode cX8_depth 21 = .ok (.istore 4, 2) := by decide +kernel
theorem dX8_depth_23 : decode cX8_depth 23 = .ok (.goto (-18), 3) := by decide +kernel
theorem dX8_depth_26 : decode cX8_depth 26 = .ok (.iload_n 3, 1) := by decide +kernel
theorem dX8_depth_27 : decode cX8_depth 27 = .ok (.ireturn, 1) := by decide +kernel
set_option maxHeartbeats 4000000 in
set_option maxRecDepth 100000 in
theorem c_X8_depth (l : Launch) (B : Nat) (D : va_G) (cA : Nat → ClassId) (m : Mm) (x0 : Nat) (x1 : Int32) (x2 : Int32) (rZ : Int32) (hf : f_X8_depth m x0 x1 x2 = some rZ) : Mt l B D cA yX8_depth cX8_depth 5 (some .int) 2 44 0 0 [.ref (B + x0), .int x1, .int x2] m (some (.int rZ)) m := by
  refine r_start (by decide) (Nat.le_of_ble_eq_true rfl) ?_
  intro p e s mt args below meth c ls H locs X hr hlocks hnm hR hl hS
  have hx := X.1
  have hb := X.2.1
  have hl : lv_has ls 5 [(0, .ref (B + x0)), (1, .int x1), (2, .int x2)] := hl
  unfold f_X8_depth at hf
  refine lv_iconst (v := 0) hx hb dX8_depth_0 (by decide) ?_
  refine lv_istore_n (lv' := [(3, .int (0 : Int32)), (0, .ref (B + x0)), (1, .int x1), (2, .int x2)]) hx hb dX8_depth_1 rfl hl (by decide) rfl (fun ls hl => ?_)
  refine lv_iload_n hx hb dX8_depth_2 rfl (lv_at hl 3 rfl) ?_
  refine lv_istore (lv' := [(4, .int x2), (3, .int (0 : Int32)), (0, .ref (B + x0)), (1, .int x1), (2, .int x2)]) hx hb dX8_depth_3 hl (by decide) rfl (fun ls hl => ?_)
  obtain ⟨e2, hwe2, hf⟩ := ob hf
  refine whl_rule (P := (fun t1 => ∀ (H : Heap) (locs : List Loc) (ls : Array Slot), Rl B D cA m H → va_S (fun q => B ≤ q) s.heap H locs → lv_has ls 5 [(0, .ref (B + x0)), (1, .int x1), (3, .int t1.1), (4, .int t1.2)] → W p l e (rmm 2 0 0 44) s mt args below meth c H locs 0 0 (MQ below (mQ B D cA (some (.int rZ)) m) args s 0 0 (fun q => B ≤ q)) (F0 mt 5 ls []))) (Qx := (fun e2 => ∀ (H : Heap) (locs : List Loc) (ls : Array Slot), Rl B D cA m H → va_S (fun q => B ≤ q) s.heap H locs → lv_has ls 5 [(3, .int e2)] → W p l e (rmm 2 0 0 44) s mt args below meth c H locs 0 0 (MQ below (mQ B D cA (some (.int rZ)) m) args s 0 0 (fun q => B ≤ q)) (F0 mt 26 ls []))) ?_ FU _ e2 hwe2 ?_ H locs ls hR hS (lv_sub hl [2, 3, 1, 0] rfl)
  · clear hwe2 hf
    intro t1 q3 hf hxlq3 hxrq3 H locs ls hR hS hl
    obtain ⟨z4, z5⟩ := t1
    have hf : f_X8_depth_L5 m x0 x1 z4 z5 = some q3 := hf
    have hR : Rl B D cA m H := hR
    have hl : lv_has ls 5 [(0, .ref (B + x0)), (1, .int x1), (3, .int z4), (4, .int z5)] := hl
    unfold f_X8_depth_L5 at hf
    refine lv_iload hx hb dX8_depth_5 (lv_at hl 3 rfl) ?_
    refine lv_iconst (v := -1) hx hb dX8_depth_7 (by decide) ?_
    refine lv_icmp_eq (tgt := 26) hx hb dX8_depth_8 (by decide) (fun c6 => ?_) (fun c6 => ?_)
    · rw [if_pos c6] at hf
      obtain rfl := Option.some.inj hf
      exact hxrq3 _ rfl H locs ls hR hS (lv_sub hl [2] rfl)
    · rw [if_neg c6] at hf
      refine lv_iinc (v := (z4 + 1)) (lv' := [(3, .int (z4 + 1)), (0, .ref (B + x0)), (1, .int x1), (4, .int z5)]) hx hb dX8_depth_11 hl (k := 2) rfl (congrArg (fun z => z4 + z) (by decide)) (by decide) rfl (fun ls hl => ?_)
      refine lv_aload_n hx hb dX8_depth_14 rfl (lv_at hl 1 rfl) ?_
      refine lv_iload_n hx hb dX8_depth_15 rfl (lv_at hl 2 rfl) ?_
      refine lv_iload hx hb dX8_depth_16 (lv_at hl 3 rfl) ?_
      obtain ⟨o7, h8, hf⟩ := obO hf
      obtain ⟨v10, g9, hf⟩ := ob hf
      refine r_callV X kw_X8_113 (ci := 8) rfl (c_X8_ofNode l B D cA m x0 x1 z5 v10 g9) ⟨Nat.le_of_ble_eq_true rfl, Nat.le_of_ble_eq_true rfl⟩ h8 hR hS hl.1 rfl rfl (Nat.le_of_ble_eq_true rfl) ⟨Nat.le_of_ble_eq_true rfl, Nat.le_of_ble_eq_true rfl⟩ dX8_depth_18 (fun H locs hR hS => ?_)
      refine W.eq (g2 := F0 mt 21 ls [.int v10]) rfl ?_
      refine lv_istore (lv' := [(4, .int v10), (3, .int (z4 + 1)), (0, .ref (B + x0)), (1, .int x1)]) hx hb dX8_depth_21 hl (by decide) rfl (fun ls hl => ?_)
      refine lv_goto (tgt := 5) hx hb dX8_depth_23 (by decide) ?_
      obtain rfl := Option.some.inj hf
      exact hxlq3 _ rfl H locs ls hR hS (lv_sub hl [2, 3, 1, 0] rfl)
  · intro H locs ls hR hS hl
    refine lv_iload_n hx hb dX8_depth_26 rfl (lv_at hl 0 rfl) ?_
    obtain rfl := Option.some.inj hf
    exact r_iret X hr hlocks hR hS rfl dX8_depth_27
