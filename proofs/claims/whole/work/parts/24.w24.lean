/-! ===== TwigMatchesModel.showsTwig(I)V ===== -/
theorem dX8_showsTwig_0 : decode cX8_showsTwig 0 = .ok (.aload_n 0, 1) := by decide +kernel
theorem dX8_showsTwig_1 : decode cX8_showsTwig 1 = .ok (.iconst 0, 1) := by decide +kernel
theorem dX8_showsTwig_2 : decode cX8_showsTwig 2 = .ok (.putfield 261, 3) := by decide +kernel
theorem dX8_showsTwig_5 : decode cX8_showsTwig 5 = .ok (.iconst 0, 1) := by decide +kernel
theorem dX8_showsTwig_6 : decode cX8_showsTwig 6 = .ok (.istore_n 2, 1) := by decide +kernel
theorem dX8_showsTwig_7 : decode cX8_showsTwig 7 = .ok (.iload_n 2, 1) := by decide +kernel
theorem dX8_showsTwig_8 : decode cX8_showsTwig 8 = .ok (.aload_n 0, 1) := by decide +kernel
theorem dX8_showsTwig_9 : decode cX8_showsTwig 9 = .ok (.getfield 32, 3) := by decide +kernel
theorem dX8_showsTwig_12 : decode cX8_showsTwig 12 = .ok (.iload_n 1, 1) := by decide +kernel
theorem dX8_showsTwig_13 : decode cX8_showsTwig 13 = .ok (.iaload, 1) := by decide +kernel
theorem dX8_showsTwig_14 : decode cX8_showsTwig 14 = .ok (.if_icmp .ge 200, 3) := by decide +kernel
theorem dX8_showsTwig_17 : decode cX8_showsTwig 17 = .ok (.iload_n 2, 1) := by decide +kernel
theorem dX8_showsTwig_18 : decode cX8_showsTwig 18 = .ok (.ifCond .le 21, 3) := by decide +kernel
theorem dX8_showsTwig_21 : decode cX8_showsTwig 21 = .ok (.aload_n 0, 1) := by decide +kernel
theorem dX8_showsTwig_22 : decode cX8_showsTwig 22 = .ok (.iload_n 1, 1) := by decide +kernel
theorem dX8_showsTwig_23 : decode cX8_showsTwig 23 = .ok (.iload_n 2, 1) := by decide +kernel
theorem dX8_showsTwig_24 : decode cX8_showsTwig 24 = .ok (.iconst 1, 1) := by decide +kernel
theorem dX8_showsTwig_25 : decode cX8_showsTwig 25 = .ok (.isub, 1) := by decide +kernel
theorem dX8_showsTwig_26 : decode cX8_showsTwig 26 = .ok (.invokevirtual 268, 3) := by decide +kernel
theorem dX8_showsTwig_29 : decode cX8_showsTwig 29 = .ok (.aload_n 0, 1) := by decide +kernel
theorem dX8_showsTwig_30 : decode cX8_showsTwig 30 = .ok (.iload_n 1, 1) := by decide +kernel
theorem dX8_showsTwig_31 : decode cX8_showsTwig 31 = .ok (.iload_n 2, 1) := by decide +kernel
theorem dX8_showsTwig_32 : decode cX8_showsTwig 32 = .ok (.invokevirtual 268, 3) := by decide +kernel
theorem dX8_showsTwig_35 : decode cX8_showsTwig 35 = .ok (.isub, 1) := by decide +kernel
theorem dX8_showsTwig_36 : decode cX8_showsTwig 36 = .ok (.goto 4, 3) := by decide +kernel
theorem dX8_showsTwig_39 : decode cX8_showsTwig 39 = .ok (.iconst 0, 1) := by decide +kernel
theorem dX8_showsTwig_40 : decode cX8_showsTwig 40 = .ok (.istore_n 3, 1) := by decide +kernel
theorem dX8_showsTwig_41 : decode cX8_showsTwig 41 = .ok (.iload_n 3, 1) := by decide +kernel
theorem dX8_showsTwig_42 : decode cX8_showsTwig 42 = .ok (.ifCond .le 15, 3) := by decide +kernel
theorem dX8_showsTwig_45 : decode cX8_showsTwig 45 = .ok (.aload_n 0, 1) := by decide +kernel
theorem dX8_showsTwig_46 : decode cX8_showsTwig 46 = .ok (.bipush 41, 2) := by decide +kernel
theorem dX8_showsTwig_48 : decode cX8_showsTwig 48 = .ok (.invokevirtual 264, 3) := by decide +kernel
theorem dX8_showsTwig_51 : decode cX8_showsTwig 51 = .ok (.iinc 3 (-1), 3) := by decide +kernel
theorem dX8_showsTwig_54 : decode cX8_showsTwig 54 = .ok (.goto (-13), 3) := by decide +kernel
theorem dX8_showsTwig_57 : decode cX8_showsTwig 57 = .ok (.iload_n 2, 1) := by decide +kernel
theorem dX8_showsTwig_58 : decode cX8_showsTwig 58 = .ok (.ifCond .le 21, 3) := by decide +kernel
theorem dX8_showsTwig_61 : decode cX8_showsTwig 61 = .ok (.aload_n 0, 1) := by decide +kernel
theorem dX8_showsTwig_62 : decode cX8_showsTwig 62 = .ok (.iload_n 1, 1) := by decide +kernel
theorem dX8_showsTwig_63 : decode cX8_showsTwig 63 = .ok (.iload_n 2, 1) := by decide +kernel
theorem dX8_showsTwig_64 : decode cX8_showsTwig 64 = .ok (.invokevirtual 113, 3) := by decide +kernel
theorem dX8_showsTwig_67 : decode cX8_showsTwig 67 = .ok (.iload_n 2, 1) := by decide +kernel
theorem dX8_showsTwig_68 : decode cX8_showsTwig 68 = .ok (.iconst 1, 1) := by decide +kernel
theorem dX8_showsTwig_69 : decode cX8_showsTwig 69 = .ok (.isub, 1) := by decide +kernel
theorem dX8_showsTwig_70 : decode cX8_showsTwig 70 = .ok (.if_icmp .ne 9, 3) := by decide +kernel
theorem dX8_showsTwig_73 : decode cX8_showsTwig 73 = .ok (.aload_n 0, 1) := by decide +kernel
theorem dX8_showsTwig_74 : decode cX8_showsTwig 74 = .ok (.bipush 40, 2) := by decide +kernel
theorem dX8_showsTwig_76 : decode cX8_showsTwig 76 = .ok (.invokevirtual 264, 3) := by decide +kernel
theorem dX8_showsTwig_79 : decode cX8_showsTwig 79 = .ok (.aload_n 0, 1) := by decide +kernel
theorem dX8_showsTwig_80 : decode cX8_showsTwig 80 = .ok (.iload_n 1, 1) := by decide +kernel
theorem dX8_showsTwig_81 : decode cX8_showsTwig 81 = .ok (.iload_n 2, 1) := by decide +kernel
theorem dX8_showsTwig_82 : decode cX8_showsTwig 82 = .ok (.invokevirtual 109, 3) := by decide +kernel
theorem dX8_showsTwig_85 : decode cX8_showsTwig 85 = .ok (.ifCond .eq 9, 3) := by decide +kernel
theorem dX8_showsTwig_88 : decode cX8_showsTwig 88 = .ok (.aload_n 0, 1) := by decide +kernel
theorem dX8_showsTwig_89 : decode cX8_showsTwig 89 = .ok (.bipush 59, 2) := by decide +kernel
theorem dX8_showsTwig_91 : decode cX8_showsTwig 91 = .ok (.invokevirtual 264, 3) := by decide +kernel
theorem dX8_showsTwig_94 : decode cX8_showsTwig 94 = .ok (.iload_n 2, 1) := by decide +kernel
theorem dX8_showsTwig_95 : decode cX8_showsTwig 95 = .ok (.ifCond .le 24, 3) := by decide +kernel
theorem dX8_showsTwig_98 : decode cX8_showsTwig 98 = .ok (.aload_n 0, 1) := by decide +kernel
theorem dX8_showsTwig_99 : decode cX8_showsTwig 99 = .ok (.aload_n 0, 1) := by decide +kernel
theorem dX8_showsTwig_100 : decode cX8_showsTwig 100 = .ok (.iload_n 1, 1) := by decide +kernel
theorem dX8_showsTwig_101 : decode cX8_showsTwig 101 = .ok (.iload_n 2, 1) := by decide +kernel
theorem dX8_showsTwig_102 : decode cX8_showsTwig 102 = .ok (.invokevirtual 158, 3) := by decide +kernel
theorem dX8_showsTwig_105 : decode cX8_showsTwig 105 = .ok (.iconst 1, 1) := by decide +kernel
theorem dX8_showsTwig_106 : decode cX8_showsTwig 106 = .ok (.if_icmp .ne 8, 3) := by decide +kernel
theorem dX8_showsTwig_109 : decode cX8_showsTwig 109 = .ok (.bipush 47, 2) := by decide +kernel
theorem dX8_showsTwig_111 : decode cX8_showsTwig 111 = .ok (.goto 5, 3) := by decide +kernel
theorem dX8_showsTwig_114 : decode cX8_showsTwig 114 = .ok (.bipush 126, 2) := by decide +kernel
theorem dX8_showsTwig_116 : decode cX8_showsTwig 116 = .ok (.invokevirtual 264, 3) := by decide +kernel
theorem dX8_showsTwig_119 : decode cX8_showsTwig 119 = .ok (.aload_n 0, 1) := by decide +kernel
theorem dX8_showsTwig_120 : decode cX8_showsTwig 120 = .ok (.aload_n 0, 1) := by decide +kernel
theorem dX8_showsTwig_121 : decode cX8_showsTwig 121 = .ok (.iload_n 1, 1) := by decide +kernel
theorem dX8_showsTwig_122 : decode cX8_showsTwig 122 = .ok (.iload_n 2, 1) := by decide +kernel
theorem dX8_showsTwig_123 : decode cX8_showsTwig 123 = .ok (.invokevirtual 105, 3) := by decide +kernel
theorem dX8_showsTwig_126 : decode cX8_showsTwig 126 = .ok (.bipush 6, 2) := by decide +kernel
theorem dX8_showsTwig_128 : decode cX8_showsTwig 128 = .ok (.if_icmp .ne 8, 3) := by decide +kernel
theorem dX8_showsTwig_131 : decode cX8_showsTwig 131 = .ok (.bipush 42, 2) := by decide +kernel
theorem dX8_showsTwig_133 : decode cX8_showsTwig 133 = .ok (.goto 12, 3) := by decide +kernel
theorem dX8_showsTwig_136 : decode cX8_showsTwig 136 = .ok (.bipush 97, 2) := by decide +kernel
theorem dX8_showsTwig_138 : decode cX8_showsTwig 138 = .ok (.aload_n 0, 1) := by decide +kernel
theorem dX8_showsTwig_139 : decode cX8_showsTwig 139 = .ok (.iload_n 1, 1) := by decide +kernel
theorem dX8_showsTwig_140 : decode cX8_showsTwig 140 = .ok (.iload_n 2, 1) := by decide +kernel
theorem dX8_showsTwig_141 : decode cX8_showsTwig 141 = .ok (.invokevirtual 105, 3) := by decide +kernel
theorem dX8_showsTwig_144 : decode cX8_showsTwig 144 = .ok (.iadd, 1) := by decide +kernel
theorem dX8_showsTwig_145 : decode cX8_showsTwig 145 = .ok (.invokevirtual 264, 3) := by decide +kernel
theorem dX8_showsTwig_148 : decode cX8_showsTwig 148 = .ok (.aload_n 0, 1) := by decide +kernel
theorem dX8_showsTwig_149 : decode cX8_showsTwig 149 = .ok (.getfield 35, 3) := by decide +kernel
theorem dX8_showsTwig_152 : decode cX8_showsTwig 152 = .ok (.iload_n 1, 1) := by decide +kernel
theorem dX8_showsTwig_153 : decode cX8_showsTwig 153 = .ok (.iload_n 2, 1) := by decide +kernel
theorem dX8_showsTwig_154 : decode cX8_showsTwig 154 = .ok (.iconst 1, 1) := by decide +kernel
theorem dX8_showsTwig_155 : decode cX8_showsTwig 155 = .ok (.invokestatic 98, 3) := by decide +kernel
theorem dX8_showsTwig_158 : decode cX8_showsTwig 158 = .ok (.iaload, 1) := by decide +kernel
theorem dX8_showsTwig_159 : decode cX8_showsTwig 159 = .ok (.istore_n 3, 1) := by decide +kernel
theorem dX8_showsTwig_160 : decode cX8_showsTwig 160 = .ok (.iload_n 3, 1) := by decide +kernel
theorem dX8_showsTwig_161 : decode cX8_showsTwig 161 = .ok (.ifCond .le 47, 3) := by decide +kernel
theorem dX8_showsTwig_164 : decode cX8_showsTwig 164 = .ok (.aload_n 0, 1) := by decide +kernel
theorem dX8_showsTwig_165 : decode cX8_showsTwig 165 = .ok (.iload_n 3, 1) := by decide +kernel
theorem dX8_showsTwig_166 : decode cX8_showsTwig 166 = .ok (.iconst 1, 1) := by decide +kernel
theorem dX8_showsTwig_167 : decode cX8_showsTwig 167 = .ok (.if_icmp .ne 8, 3) := by decide +kernel
theorem dX8_showsTwig_170 : decode cX8_showsTwig 170 = .ok (.bipush 61, 2) := by decide +kernel
theorem dX8_showsTwig_172 : decode cX8_showsTwig 172 = .ok (.goto 15, 3) := by decide +kernel
theorem dX8_showsTwig_175 : decode cX8_showsTwig 175 = .ok (.iload_n 3, 1) := by decide +kernel
theorem dX8_showsTwig_176 : decode cX8_showsTwig 176 = .ok (.iconst 2, 1) := by decide +kernel
theorem dX8_showsTwig_177 : decode cX8_showsTwig 177 = .ok (.if_icmp .ne 8, 3) := by decide +kernel
theorem dX8_showsTwig_180 : decode cX8_showsTwig 180 = .ok (.bipush 60, 2) := by decide +kernel
theorem dX8_showsTwig_182 : decode cX8_showsTwig 182 = .ok (.goto 5, 3) := by decide +kernel
theorem dX8_showsTwig_185 : decode cX8_showsTwig 185 = .ok (.bipush 62, 2) := by decide +kernel
theorem dX8_showsTwig_187 : decode cX8_showsTwig 187 = .ok (.invokevirtual 264, 3) := by decide +kernel
theorem dX8_showsTwig_190 : decode cX8_showsTwig 190 = .ok (.aload_n 0, 1) := by decide +kernel
theorem dX8_showsTwig_191 : decode cX8_showsTwig 191 = .ok (.bipush 48, 2) := by decide +kernel
theorem dX8_showsTwig_193 : decode cX8_showsTwig 193 = .ok (.aload_n 0, 1) := by decide +kernel
theorem dX8_showsTwig_194 : decode cX8_showsTwig 194 = .ok (.getfield 35, 3) := by decide +kernel
theorem dX8_showsTwig_197 : decode cX8_showsTwig 197 = .ok (.iload_n 1, 1) := by decide +kernel
theorem dX8_showsTwig_198 : decode cX8_showsTwig 198 = .ok (.iload_n 2, 1) := by decide +kernel
theorem dX8_showsTwig_199 : decode cX8_showsTwig 199 = .ok (.iconst 2, 1) := by decide +kernel
theorem dX8_showsTwig_200 : decode cX8_showsTwig 200 = .ok (.invokestatic 98, 3) := by decide +kernel
theorem dX8_showsTwig_203 : decode cX8_showsTwig 203 = .ok (.iaload, 1) := by decide +kernel
theorem dX8_showsTwig_204 : decode cX8_showsTwig 204 = .ok (.iadd, 1) := by decide +kernel
theorem dX8_showsTwig_205 : decode cX8_showsTwig 205 = .ok (.invokevirtual 264, 3) := by decide +kernel
theorem dX8_showsTwig_208 : decode cX8_showsTwig 208 = .ok (.iinc 2 1, 3) := by decide +kernel
theorem dX8_showsTwig_211 : decode cX8_showsTwig 211 = .ok (.goto (-204), 3) := by decide +kernel
theorem dX8_showsTwig_214 : decode cX8_showsTwig 214 = .ok (.aload_n 0, 1) := by decide +kernel
theorem dX8_showsTwig_215 : decode cX8_showsTwig 215 = .ok (.iload_n 1, 1) := by decide +kernel
theorem dX8_showsTwig_216 : decode cX8_showsTwig 216 = .ok (.aload_n 0, 1) := by decide +kernel
theorem dX8_showsTwig_217 : decode cX8_showsTwig 217 = .ok (.getfield 32, 3) := by decide +kernel
theorem dX8_showsTwig_220 : decode cX8_showsTwig 220 = .ok (.iload_n 1, 1) := by decide +kernel
theorem dX8_showsTwig_221 : decode cX8_showsTwig 221 = .ok (.iaload, 1) := by decide +kernel
theorem dX8_showsTwig_222 : decode cX8_showsTwig 222 = .ok (.iconst 1, 1) := by decide +kernel
theorem dX8_showsTwig_223 : decode cX8_showsTwig 223 = .ok (.isub, 1) := by decide +kernel
theorem dX8_showsTwig_224 : decode cX8_showsTwig 224 = .ok (.invokevirtual 268, 3) := by decide +kernel
theorem dX8_showsTwig_227 : decode cX8_showsTwig 227 = .ok (.istore_n 2, 1) := by decide +kernel
theorem dX8_showsTwig_228 : decode cX8_showsTwig 228 = .ok (.iload_n 2, 1) := by decide +kernel
theorem dX8_showsTwig_229 : decode cX8_showsTwig 229 = .ok (.iconst 1, 1) := by decide +kernel
theorem dX8_showsTwig_230 : decode cX8_showsTwig 230 = .ok (.if_icmp .le 15, 3) := by decide +kernel
theorem dX8_showsTwig_233 : decode cX8_showsTwig 233 = .ok (.aload_n 0, 1) := by decide +kernel
theorem dX8_showsTwig_234 : decode cX8_showsTwig 234 = .ok (.bipush 41, 2) := by decide +kernel
theorem dX8_showsTwig_236 : decode cX8_showsTwig 236 = .ok (.invokevirtual 264, 3) := by decide +kernel
theorem dX8_showsTwig_239 : decode cX8_showsTwig 239 = .ok (.iinc 2 (-1), 3) := by decide +kernel
theorem dX8_showsTwig_242 : decode cX8_showsTwig 242 = .ok (.goto (-14), 3) := by decide +kernel
theorem dX8_showsTwig_245 : decode cX8_showsTwig 245 = .ok (.return_, 1) := by decide +kernel
set_option maxHeartbeats 4000000 in
set_option maxRecDepth 100000 in
theorem c_X8_showsTwig (l : Launch) (B : Nat) (D : va_G) (cA : Nat → ClassId) (m : Mm) (x0 : Nat) (x1 : Int32) (mZ : Mm) (hf : f_X8_showsTwig m x0 x1 = some mZ) : Mt l B D cA yX8_showsTwig cX8_showsTwig 4 none 3 68 0 0 [.ref (B + x0), .int x1] m none mZ := by
  refine r_start (by decide) (Nat.le_of_ble_eq_true rfl) ?_
  intro p e s mt args below meth c ls H locs X hr hlocks hnm hR hl hS
  have hx := X.1
  have hb := X.2.1
  have hl : lv_has ls 4 [(0, .ref (B + x0)), (1, .int x1)] := hl
  unfold f_X8_showsTwig at hf
  refine lv_aload_n hx hb dX8_showsTwig_0 rfl (lv_at hl 0 rfl) ?_
  refine lv_iconst (v := 0) hx hb dX8_showsTwig_1 (by decide) ?_
  obtain ⟨m1, g2, hf⟩ := ob hf
  refine pI_X8_261 X hR hS g2 dX8_showsTwig_2 (fun H locs hR hS => ?_)
  refine lv_iconst (v := 0) hx hb dX8_showsTwig_5 (by decide) ?_
  refine lv_istore_n (lv' := [(2, .int (0 : Int32)), (0, .ref (B + x0)), (1, .int x1)]) hx hb dX8_showsTwig_6 rfl hl (by decide) rfl (fun ls hl => ?_)
  obtain ⟨e4, hwe4, hf⟩ := ob hf
  refine whl_rule (P := (fun t3 => ∀ (H : Heap) (locs : List Loc) (ls : Array Slot), Rl B D cA t3.2 H → va_S (fun q => B ≤ q) s.heap H locs → lv_has ls 4 [(0, .ref (B + x0)), (1, .int x1), (2, .int t3.1)] → W p l e (rmm 3 0 0 68) s mt args below meth c H locs 0 0 (MQ below (mQ B D cA none mZ) args s 0 0 (fun q => B ≤ q)) (F0 mt 7 ls []))) (Qx := (fun e4 => ∀ (H : Heap) (locs : List Loc) (ls : Array Slot), Rl B D cA e4 H → va_S (fun q => B ≤ q) s.heap H locs → lv_has ls 4 [(0, .ref (B + x0)), (1, .int x1)] → W p l e (rmm 3 0 0 68) s mt args below meth c H locs 0 0 (MQ below (mQ B D cA none mZ) args s 0 0 (fun q => B ≤ q)) (F0 mt 214 ls []))) ?_ FU _ e4 hwe4 ?_ H locs ls hR hS (lv_sub hl [1, 2, 0] rfl)
  · clear hwe4 hf
    intro t3 q5 hf hxlq5 hxrq5 H locs ls hR hS hl
    obtain ⟨z6, m7⟩ := t3
    have hf : f_X8_showsTwig_L7 m7 x0 x1 z6 = some q5 := hf
    have hR : Rl B D cA m7 H := hR
    have hl : lv_has ls 4 [(0, .ref (B + x0)), (1, .int x1), (2, .int z6)] := hl
    unfold f_X8_showsTwig_L7 at hf
    refine lv_iload_n hx hb dX8_showsTwig_7 rfl (lv_at hl 2 rfl) ?_
    refine lv_aload_n hx hb dX8_showsTwig_8 rfl (lv_at hl 0 rfl) ?_
    obtain ⟨v8, g9, hf⟩ := ob hf
    refine gR_X8_32 X hR g9 dX8_showsTwig_9 ?_
    refine lv_iload_n hx hb dX8_showsTwig_12 rfl (lv_at hl 1 rfl) ?_
    obtain ⟨v10, g11, hf⟩ := ob hf
    refine r_lI X hR g11 dX8_showsTwig_13 ?_
    refine lv_icmp_ge (tgt := 214) hx hb dX8_showsTwig_14 (by decide) (fun c12 => ?_) (fun c12 => ?_)
    · rw [if_pos c12] at hf
      obtain rfl := Option.some.inj hf
      exact hxrq5 _ rfl H locs ls hR hS (lv_sub hl [0, 1] rfl)
    · rw [if_neg c12] at hf
      refine lv_iload_n hx hb dX8_showsTwig_17 rfl (lv_at hl 2 rfl) ?_
      obtain ⟨t13, hjt13, hf⟩ := ob hf
      have hJt13 : ∀ (H : Heap) (locs : List Loc) (ls : Array Slot), Rl B D cA m7 H → va_S (fun q => B ≤ q) s.heap H locs → lv_has ls 4 [(0, .ref (B + x0)), (1, .int x1), (2, .int z6)] → W p l e (rmm 3 0 0 68) s mt args below meth c H locs 0 0 (MQ below (mQ B D cA none mZ) args s 0 0 (fun q => B ≤ q)) (F0 mt 40 ls [.int t13]) := by
        intro H locs ls hR hS hl
        refine lv_istore_n (lv' := [(3, .int t13), (0, .ref (B + x0)), (1, .int x1), (2, .int z6)]) hx hb dX8_showsTwig_40 rfl hl (by decide) rfl (fun ls hl => ?_)
        obtain ⟨e24, hwe24, hf⟩ := ob hf
        refine whl_rule (P := (fun t23 => ∀ (H : Heap) (locs : List Loc) (ls : Array Slot), Rl B D cA t23.2 H → va_S (fun q => B ≤ q) s.heap H locs → lv_has ls 4 [(0, .ref (B + x0)), (1, .int x1), (2, .int z6), (3, .int t23.1)] → W p l e (rmm 3 0 0 68) s mt args below meth c H locs 0 0 (MQ below (mQ B D cA none mZ) args s 0 0 (fun q => B ≤ q)) (F0 mt 41 ls []))) (Qx := (fun e24 => ∀ (H : Heap) (locs : List Loc) (ls : Array Slot), Rl B D cA e24 H → va_S (fun q => B ≤ q) s.heap H locs → lv_has ls 4 [(0, .ref (B + x0)), (1, .int x1), (2, .int z6)] → W p l e (rmm 3 0 0 68) s mt args below meth c H locs 0 0 (MQ below (mQ B D cA none mZ) args s 0 0 (fun q => B ≤ q)) (F0 mt 57 ls []))) ?_ FU _ e24 hwe24 ?_ H locs ls hR hS (lv_sub hl [1, 2, 3, 0] rfl)
        · clear hwe24 hf
          intro t23 q25 hf hxlq25 hxrq25 H locs ls hR hS hl
          obtain ⟨z26, m27⟩ := t23
          have hf : f_X8_showsTwig_L41 m27 x0 x1 z6 z26 = some q25 := hf
          have hR : Rl B D cA m27 H := hR
          have hl : lv_has ls 4 [(0, .ref (B + x0)), (1, .int x1), (2, .int z6), (3, .int z26)] := hl
          unfold f_X8_showsTwig_L41 at hf
          refine lv_iload_n hx hb dX8_showsTwig_41 rfl (lv_at hl 3 rfl) ?_
          refine lv_if_le (tgt := 57) hx hb dX8_showsTwig_42 (by decide) (fun c28 => ?_) (fun c28 => ?_)
          · rw [if_pos c28] at hf
            obtain rfl := Option.some.inj hf
            exact hxrq25 _ rfl H locs ls hR hS (lv_sub hl [0, 1, 2] rfl)
          · rw [if_neg c28] at hf
            refine lv_aload_n hx hb dX8_showsTwig_45 rfl (lv_at hl 0 rfl) ?_
            refine lv_bipush (v := 41) hx hb dX8_showsTwig_46 (by decide) ?_
            obtain ⟨o29, h30, hf⟩ := obO hf
            obtain ⟨m32, g31, hf⟩ := ob hf
            refine r_callV X kw_X8_264 (ci := 8) rfl (c_X8_shows l B D cA m27 x0 (41 : Int32) m32 g31) ⟨Nat.le_of_ble_eq_true rfl, Nat.le_of_ble_eq_true rfl⟩ h30 hR hS hl.1 rfl rfl (Nat.le_of_ble_eq_true rfl) ⟨Nat.le_of_ble_eq_true rfl, Nat.le_of_ble_eq_true rfl⟩ dX8_showsTwig_48 (fun H locs hR hS => ?_)
            refine W.eq (g2 := F0 mt 51 ls []) rfl ?_
            refine lv_iinc (v := (z26 + (-1))) (lv' := [(3, .int (z26 + (-1))), (0, .ref (B + x0)), (1, .int x1), (2, .int z6)]) hx hb dX8_showsTwig_51 hl (k := 3) rfl (congrArg (fun z => z26 + z) (by decide)) (by decide) rfl (fun ls hl => ?_)
            refine lv_goto (tgt := 41) hx hb dX8_showsTwig_54 (by decide) ?_
            obtain rfl := Option.some.inj hf
            exact hxlq25 _ rfl H locs ls hR hS (lv_sub hl [1, 2, 3, 0] rfl)
        · intro H locs ls hR hS hl
          refine lv_iload_n hx hb dX8_showsTwig_57 rfl (lv_at hl 2 rfl) ?_
          obtain ⟨t33, hjt33, hf⟩ := ob hf
          have hJt33 : ∀ (H : Heap) (locs : List Loc) (ls : Array Slot), Rl B D cA t33 H → va_S (fun q => B ≤ q) s.heap H locs → lv_has ls 4 [(0, .ref (B + x0)), (1, .int x1), (2, .int z6)] → W p l e (rmm 3 0 0 68) s mt args below meth c H locs 0 0 (MQ below (mQ B D cA none mZ) args s 0 0 (fun q => B ≤ q)) (F0 mt 79 ls []) := by
            intro H locs ls hR hS hl
            refine lv_aload_n hx hb dX8_showsTwig_79 rfl (lv_at hl 0 rfl) ?_
            refine lv_iload_n hx hb dX8_showsTwig_80 rfl (lv_at hl 1 rfl) ?_
            refine lv_iload_n hx hb dX8_showsTwig_81 rfl (lv_at hl 2 rfl) ?_
            obtain ⟨o44, h45, hf⟩ := obO hf
            obtain ⟨v47, g46, hf⟩ := ob hf
            refine r_callV X kw_X8_109 (ci := 8) rfl (c_X8_isOrdered l B D cA t33 x0 x1 z6 v47 g46) ⟨Nat.le_of_ble_eq_true rfl, Nat.le_of_ble_eq_true rfl⟩ h45 hR hS hl.1 rfl rfl (Nat.le_of_ble_eq_true rfl) ⟨Nat.le_of_ble_eq_true rfl, Nat.le_of_ble_eq_true rfl⟩ dX8_showsTwig_82 (fun H locs hR hS => ?_)
            refine W.eq (g2 := F0 mt 85 ls [.int v47]) rfl ?_
            obtain ⟨t48, hjt48, hf⟩ := ob hf
            have hJt48 : ∀ (H : Heap) (locs : List Loc) (ls : Array Slot), Rl B D cA t48 H → va_S (fun q => B ≤ q) s.heap H locs → lv_has ls 4 [(0, .ref (B + x0)), (1, .int x1), (2, .int z6)] → W p l e (rmm 3 0 0 68) s mt args below meth c H locs 0 0 (MQ below (mQ B D cA none mZ) args s 0 0 (fun q => B ≤ q)) (F0 mt 94 ls []) := by
              intro H locs ls hR hS hl
              refine lv_iload_n hx hb dX8_showsTwig_94 rfl (lv_at hl 2 rfl) ?_
              obtain ⟨t54, hjt54, hf⟩ := ob hf
              have hJt54 : ∀ (H : Heap) (locs : List Loc) (ls : Array Slot), Rl B D cA t54 H → va_S (fun q => B ≤ q) s.heap H locs → lv_has ls 4 [(0, .ref (B + x0)), (1, .int x1), (2, .int z6)] → W p l e (rmm 3 0 0 68) s mt args below meth c H locs 0 0 (MQ below (mQ B D cA none mZ) args s 0 0 (fun q => B ≤ q)) (F0 mt 119 ls []) := by
                intro H locs ls hR hS hl
                refine lv_aload_n hx hb dX8_showsTwig_119 rfl (lv_at hl 0 rfl) ?_
                refine lv_aload_n hx hb dX8_showsTwig_120 rfl (lv_at hl 0 rfl) ?_
                refine lv_iload_n hx hb dX8_showsTwig_121 rfl (lv_at hl 1 rfl) ?_
                refine lv_iload_n hx hb dX8_showsTwig_122 rfl (lv_at hl 2 rfl) ?_
                obtain ⟨o69, h70, hf⟩ := obO hf
                obtain ⟨v72, g71, hf⟩ := ob hf
                refine r_callV X kw_X8_105 (ci := 8) rfl (c_X8_tagOf l B D cA t54 x0 x1 z6 v72 g71) ⟨Nat.le_of_ble_eq_true rfl, Nat.le_of_ble_eq_true rfl⟩ h70 hR hS hl.1 rfl rfl (Nat.le_of_ble_eq_true rfl) ⟨Nat.le_of_ble_eq_true rfl, Nat.le_of_ble_eq_true rfl⟩ dX8_showsTwig_123 (fun H locs hR hS => ?_)
                refine W.eq (g2 := F0 mt 126 ls [.int v72, .ref (B + x0)]) rfl ?_
                refine lv_bipush (v := 6) hx hb dX8_showsTwig_126 (by decide) ?_
                obtain ⟨t73, hjt73, hf⟩ := ob hf
                have hJt73 : ∀ (H : Heap) (locs : List Loc) (ls : Array Slot), Rl B D cA t54 H → va_S (fun q => B ≤ q) s.heap H locs → lv_has ls 4 [(0, .ref (B + x0)), (1, .int x1), (2, .int z6)] → W p l e (rmm 3 0 0 68) s mt args below meth c H locs 0 0 (MQ below (mQ B D cA none mZ) args s 0 0 (fun q => B ≤ q)) (F0 mt 145 ls [.int t73, .ref (B + x0)]) := by
                  intro H locs ls hR hS hl
                  obtain ⟨o79, h80, hf⟩ := obO hf
                  obtain ⟨m82, g81, hf⟩ := ob hf
                  refine r_callV X kw_X8_264 (ci := 8) rfl (c_X8_shows l B D cA t54 x0 t73 m82 g81) ⟨Nat.le_of_ble_eq_true rfl, Nat.le_of_ble_eq_true rfl⟩ h80 hR hS hl.1 rfl rfl (Nat.le_of_ble_eq_true rfl) ⟨Nat.le_of_ble_eq_true rfl, Nat.le_of_ble_eq_true rfl⟩ dX8_showsTwig_145 (fun H locs hR hS => ?_)
                  refine W.eq (g2 := F0 mt 148 ls []) rfl ?_
                  refine lv_aload_n hx hb dX8_showsTwig_148 rfl (lv_at hl 0 rfl) ?_
                  obtain ⟨v83, g84, hf⟩ := ob hf
                  refine gR_X8_35 X hR g84 dX8_showsTwig_149 ?_
                  refine lv_iload_n hx hb dX8_showsTwig_152 rfl (lv_at hl 1 rfl) ?_
                  refine lv_iload_n hx hb dX8_showsTwig_153 rfl (lv_at hl 2 rfl) ?_
                  refine lv_iconst (v := 1) hx hb dX8_showsTwig_154 (by decide) ?_
                  obtain ⟨v86, g85, hf⟩ := ob hf
                  refine r_callS X kw_X8_98 (c_X8_cell l B D cA m82 x1 z6 (1 : Int32) v86 g85) ⟨Nat.le_of_ble_eq_true rfl, Nat.le_of_ble_eq_true rfl⟩ hR hS hl.1 rfl rfl (Nat.le_of_ble_eq_true rfl) ⟨Nat.le_of_ble_eq_true rfl, Nat.le_of_ble_eq_true rfl⟩ dX8_showsTwig_155 (fun H locs hR hS => ?_)
                  refine W.eq (g2 := F0 mt 158 ls [.int v86, .ref (B + v83)]) rfl ?_
                  obtain ⟨v87, g88, hf⟩ := ob hf
                  refine r_lI X hR g88 dX8_showsTwig_158 ?_
                  refine lv_istore_n (lv' := [(3, .int v87), (0, .ref (B + x0)), (1, .int x1), (2, .int z6)]) hx hb dX8_showsTwig_159 rfl hl (by decide) rfl (fun ls hl => ?_)
                  refine lv_iload_n hx hb dX8_showsTwig_160 rfl (lv_at hl 0 rfl) ?_
                  refine lv_if_le (tgt := 208) hx hb dX8_showsTwig_161 (by decide) (fun c89 => ?_) (fun c89 => ?_)
                  · rw [if_pos c89] at hf
                    refine lv_iinc (v := (z6 + 1)) (lv' := [(2, .int (z6 + 1)), (3, .int v87), (0, .ref (B + x0)), (1, .int x1)]) hx hb dX8_showsTwig_208 hl (k := 3) rfl (congrArg (fun z => z6 + z) (by decide)) (by decide) rfl (fun ls hl => ?_)
                    refine lv_goto (tgt := 7) hx hb dX8_showsTwig_211 (by decide) ?_
                    obtain rfl := Option.some.inj hf
                    exact hxlq5 _ rfl H locs ls hR hS (lv_sub hl [2, 3, 0] rfl)
                  · rw [if_neg c89] at hf
                    refine lv_aload_n hx hb dX8_showsTwig_164 rfl (lv_at hl 1 rfl) ?_
                    refine lv_iload_n hx hb dX8_showsTwig_165 rfl (lv_at hl 0 rfl) ?_
                    refine lv_iconst (v := 1) hx hb dX8_showsTwig_166 (by decide) ?_
                    obtain ⟨t90, hjt90, hf⟩ := ob hf
                    have hJt90 : ∀ (H : Heap) (locs : List Loc) (ls : Array Slot), Rl B D cA m82 H → va_S (fun q => B ≤ q) s.heap H locs → lv_has ls 4 [(0, .ref (B + x0)), (1, .int x1), (2, .int z6)] → W p l e (rmm 3 0 0 68) s mt args below meth c H locs 0 0 (MQ below (mQ B D cA none mZ) args s 0 0 (fun q => B ≤ q)) (F0 mt 187 ls [.int t90, .ref (B + x0)]) := by
                      intro H locs ls hR hS hl
                      obtain ⟨o93, h94, hf⟩ := obO hf
                      obtain ⟨m96, g95, hf⟩ := ob hf
                      refine r_callV X kw_X8_264 (ci := 8) rfl (c_X8_shows l B D cA m82 x0 t90 m96 g95) ⟨Nat.le_of_ble_eq_true rfl, Nat.le_of_ble_eq_true rfl⟩ h94 hR hS hl.1 rfl rfl (Nat.le_of_ble_eq_true rfl) ⟨Nat.le_of_ble_eq_true rfl, Nat.le_of_ble_eq_true rfl⟩ dX8_showsTwig_187 (fun H locs hR hS => ?_)
                      refine W.eq (g2 := F0 mt 190 ls []) rfl ?_
                      refine lv_aload_n hx hb dX8_showsTwig_190 rfl (lv_at hl 0 rfl) ?_
                      refine lv_bipush (v := 48) hx hb dX8_showsTwig_191 (by decide) ?_
                      refine lv_aload_n hx hb dX8_showsTwig_193 rfl (lv_at hl 0 rfl) ?_
                      obtain ⟨v97, g98, hf⟩ := ob hf
                      refine gR_X8_35 X hR g98 dX8_showsTwig_194 ?_
                      refine lv_iload_n hx hb dX8_showsTwig_197 rfl (lv_at hl 1 rfl) ?_
                      refine lv_iload_n hx hb dX8_showsTwig_198 rfl (lv_at hl 2 rfl) ?_
                      refine lv_iconst (v := 2) hx hb dX8_showsTwig_199 (by decide) ?_
                      obtain ⟨v100, g99, hf⟩ := ob hf
                      refine r_callS X kw_X8_98 (c_X8_cell l B D cA m96 x1 z6 (2 : Int32) v100 g99) ⟨Nat.le_of_ble_eq_true rfl, Nat.le_of_ble_eq_true rfl⟩ hR hS hl.1 rfl rfl (Nat.le_of_ble_eq_true rfl) ⟨Nat.le_of_ble_eq_true rfl, Nat.le_of_ble_eq_true rfl⟩ dX8_showsTwig_200 (fun H locs hR hS => ?_)
                      refine W.eq (g2 := F0 mt 203 ls [.int v100, .ref (B + v97), .int (48 : Int32), .ref (B + x0)]) rfl ?_
                      obtain ⟨v101, g102, hf⟩ := ob hf
                      refine r_lI X hR g102 dX8_showsTwig_203 ?_
                      refine lv_iadd hx hb dX8_showsTwig_204 ?_
                      obtain ⟨o103, h104, hf⟩ := obO hf
                      obtain ⟨m106, g105, hf⟩ := ob hf
                      refine r_callV X kw_X8_264 (ci := 8) rfl (c_X8_shows l B D cA m96 x0 ((48 : Int32) + v101) m106 g105) ⟨Nat.le_of_ble_eq_true rfl, Nat.le_of_ble_eq_true rfl⟩ h104 hR hS hl.1 rfl rfl (Nat.le_of_ble_eq_true rfl) ⟨Nat.le_of_ble_eq_true rfl, Nat.le_of_ble_eq_true rfl⟩ dX8_showsTwig_205 (fun H locs hR hS => ?_)
                      refine W.eq (g2 := F0 mt 208 ls []) rfl ?_
                      refine lv_iinc (v := (z6 + 1)) (lv' := [(2, .int (z6 + 1)), (0, .ref (B + x0)), (1, .int x1)]) hx hb dX8_showsTwig_208 hl (k := 2) rfl (congrArg (fun z => z6 + z) (by decide)) (by decide) rfl (fun ls hl => ?_)
                      refine lv_goto (tgt := 7) hx hb dX8_showsTwig_211 (by decide) ?_
                      obtain rfl := Option.some.inj hf
                      exact hxlq5 _ rfl H locs ls hR hS (lv_sub hl [1, 2, 0] rfl)
                    have hf := hjt90
                    clear hjt90
                    refine lv_icmp_ne (tgt := 175) hx hb dX8_showsTwig_167 (by decide) (fun c91 => ?_) (fun c91 => ?_)
                    · rw [if_neg c91] at hf
                      refine lv_iload_n hx hb dX8_showsTwig_175 rfl (lv_at hl 0 rfl) ?_
                      refine lv_iconst (v := 2) hx hb dX8_showsTwig_176 (by decide) ?_
                      refine lv_icmp_ne (tgt := 185) hx hb dX8_showsTwig_177 (by decide) (fun c92 => ?_) (fun c92 => ?_)
                      · rw [if_neg c92] at hf
                        refine lv_bipush (v := 62) hx hb dX8_showsTwig_185 (by decide) ?_
                        obtain rfl := Option.some.inj hf
                        exact hJt90 H locs ls hR hS (lv_sub hl [1, 2, 3] rfl)
                      · rw [if_pos c92] at hf
                        refine lv_bipush (v := 60) hx hb dX8_showsTwig_180 (by decide) ?_
                        refine lv_goto (tgt := 187) hx hb dX8_showsTwig_182 (by decide) ?_
                        obtain rfl := Option.some.inj hf
                        exact hJt90 H locs ls hR hS (lv_sub hl [1, 2, 3] rfl)
                    · rw [if_pos c91] at hf
                      refine lv_bipush (v := 61) hx hb dX8_showsTwig_170 (by decide) ?_
                      refine lv_goto (tgt := 187) hx hb dX8_showsTwig_172 (by decide) ?_
                      obtain rfl := Option.some.inj hf
                      exact hJt90 H locs ls hR hS (lv_sub hl [1, 2, 3] rfl)
                have hf := hjt73
                clear hjt73
                refine lv_icmp_ne (tgt := 136) hx hb dX8_showsTwig_128 (by decide) (fun c74 => ?_) (fun c74 => ?_)
                · rw [if_neg c74] at hf
                  refine lv_bipush (v := 97) hx hb dX8_showsTwig_136 (by decide) ?_
                  refine lv_aload_n hx hb dX8_showsTwig_138 rfl (lv_at hl 0 rfl) ?_
                  refine lv_iload_n hx hb dX8_showsTwig_139 rfl (lv_at hl 1 rfl) ?_
                  refine lv_iload_n hx hb dX8_showsTwig_140 rfl (lv_at hl 2 rfl) ?_
                  obtain ⟨o75, h76, hf⟩ := obO hf
                  obtain ⟨v78, g77, hf⟩ := ob hf
                  refine r_callV X kw_X8_105 (ci := 8) rfl (c_X8_tagOf l B D cA t54 x0 x1 z6 v78 g77) ⟨Nat.le_of_ble_eq_true rfl, Nat.le_of_ble_eq_true rfl⟩ h76 hR hS hl.1 rfl rfl (Nat.le_of_ble_eq_true rfl) ⟨Nat.le_of_ble_eq_true rfl, Nat.le_of_ble_eq_true rfl⟩ dX8_showsTwig_141 (fun H locs hR hS => ?_)
                  refine W.eq (g2 := F0 mt 144 ls [.int v78, .int (97 : Int32), .ref (B + x0)]) rfl ?_
                  refine lv_iadd hx hb dX8_showsTwig_144 ?_
                  obtain rfl := Option.some.inj hf
                  exact hJt73 H locs ls hR hS (lv_sub hl [0, 1, 2] rfl)
                · rw [if_pos c74] at hf
                  refine lv_bipush (v := 42) hx hb dX8_showsTwig_131 (by decide) ?_
                  refine lv_goto (tgt := 145) hx hb dX8_showsTwig_133 (by decide) ?_
                  obtain rfl := Option.some.inj hf
                  exact hJt73 H locs ls hR hS (lv_sub hl [0, 1, 2] rfl)
              have hf := hjt54
              clear hjt54
              refine lv_if_le (tgt := 119) hx hb dX8_showsTwig_95 (by decide) (fun c55 => ?_) (fun c55 => ?_)
              · rw [if_pos c55] at hf
                obtain rfl := Option.some.inj hf
                exact hJt54 H locs ls hR hS (lv_sub hl [0, 1, 2] rfl)
              · rw [if_neg c55] at hf
                refine lv_aload_n hx hb dX8_showsTwig_98 rfl (lv_at hl 0 rfl) ?_
                refine lv_aload_n hx hb dX8_showsTwig_99 rfl (lv_at hl 0 rfl) ?_
                refine lv_iload_n hx hb dX8_showsTwig_100 rfl (lv_at hl 1 rfl) ?_
                refine lv_iload_n hx hb dX8_showsTwig_101 rfl (lv_at hl 2 rfl) ?_
                obtain ⟨o56, h57, hf⟩ := obO hf
                obtain ⟨v59, g58, hf⟩ := ob hf
                refine r_callV X kw_X8_158 (ci := 8) rfl (c_X8_jointOf l B D cA t48 x0 x1 z6 v59 g58) ⟨Nat.le_of_ble_eq_true rfl, Nat.le_of_ble_eq_true rfl⟩ h57 hR hS hl.1 rfl rfl (Nat.le_of_ble_eq_true rfl) ⟨Nat.le_of_ble_eq_true rfl, Nat.le_of_ble_eq_true rfl⟩ dX8_showsTwig_102 (fun H locs hR hS => ?_)
                refine W.eq (g2 := F0 mt 105 ls [.int v59, .ref (B + x0)]) rfl ?_
                refine lv_iconst (v := 1) hx hb dX8_showsTwig_105 (by decide) ?_
                refine lv_icmp_ne (tgt := 114) hx hb dX8_showsTwig_106 (by decide) (fun c60 => ?_) (fun c60 => ?_)
                · rw [if_neg c60] at hf
                  refine lv_bipush (v := 126) hx hb dX8_showsTwig_114 (by decide) ?_
                  obtain ⟨o61, h62, hf⟩ := obO hf
                  obtain ⟨m64, g63, hf⟩ := ob hf
                  refine r_callV X kw_X8_264 (ci := 8) rfl (c_X8_shows l B D cA t48 x0 (126 : Int32) m64 g63) ⟨Nat.le_of_ble_eq_true rfl, Nat.le_of_ble_eq_true rfl⟩ h62 hR hS hl.1 rfl rfl (Nat.le_of_ble_eq_true rfl) ⟨Nat.le_of_ble_eq_true rfl, Nat.le_of_ble_eq_true rfl⟩ dX8_showsTwig_116 (fun H locs hR hS => ?_)
                  refine W.eq (g2 := F0 mt 119 ls []) rfl ?_
                  obtain rfl := Option.some.inj hf
                  exact hJt54 H locs ls hR hS (lv_sub hl [0, 1, 2] rfl)
                · rw [if_pos c60] at hf
                  refine lv_bipush (v := 47) hx hb dX8_showsTwig_109 (by decide) ?_
                  refine lv_goto (tgt := 116) hx hb dX8_showsTwig_111 (by decide) ?_
                  obtain ⟨o65, h66, hf⟩ := obO hf
                  obtain ⟨m68, g67, hf⟩ := ob hf
                  refine r_callV X kw_X8_264 (ci := 8) rfl (c_X8_shows l B D cA t48 x0 (47 : Int32) m68 g67) ⟨Nat.le_of_ble_eq_true rfl, Nat.le_of_ble_eq_true rfl⟩ h66 hR hS hl.1 rfl rfl (Nat.le_of_ble_eq_true rfl) ⟨Nat.le_of_ble_eq_true rfl, Nat.le_of_ble_eq_true rfl⟩ dX8_showsTwig_116 (fun H locs hR hS => ?_)
                  refine W.eq (g2 := F0 mt 119 ls []) rfl ?_
                  obtain rfl := Option.some.inj hf
                  exact hJt54 H locs ls hR hS (lv_sub hl [0, 1, 2] rfl)
            have hf := hjt48
            clear hjt48
            refine lv_if_eq (tgt := 94) hx hb dX8_showsTwig_85 (by decide) (fun c49 => ?_) (fun c49 => ?_)
            · rw [if_pos c49] at hf
              obtain rfl := Option.some.inj hf
              exact hJt48 H locs ls hR hS (lv_sub hl [0, 1, 2] rfl)
            · rw [if_neg c49] at hf
              refine lv_aload_n hx hb dX8_showsTwig_88 rfl (lv_at hl 0 rfl) ?_
              refine lv_bipush (v := 59) hx hb dX8_showsTwig_89 (by decide) ?_
              obtain ⟨o50, h51, hf⟩ := obO hf
              obtain ⟨m53, g52, hf⟩ := ob hf
              refine r_callV X kw_X8_264 (ci := 8) rfl (c_X8_shows l B D cA t33 x0 (59 : Int32) m53 g52) ⟨Nat.le_of_ble_eq_true rfl, Nat.le_of_ble_eq_true rfl⟩ h51 hR hS hl.1 rfl rfl (Nat.le_of_ble_eq_true rfl) ⟨Nat.le_of_ble_eq_true rfl, Nat.le_of_ble_eq_true rfl⟩ dX8_showsTwig_91 (fun H locs hR hS => ?_)
              refine W.eq (g2 := F0 mt 94 ls []) rfl ?_
              obtain rfl := Option.some.inj hf
              exact hJt48 H locs ls hR hS (lv_sub hl [0, 1, 2] rfl)
          have hf := hjt33
          clear hjt33
          refine lv_if_le (tgt := 79) hx hb dX8_showsTwig_58 (by decide) (fun c34 => ?_) (fun c34 => ?_)
          · rw [if_pos c34] at hf
            obtain rfl := Option.some.inj hf
            exact hJt33 H locs ls hR hS (lv_sub hl [0, 1, 2] rfl)
          · rw [if_neg c34] at hf
            refine lv_aload_n hx hb dX8_showsTwig_61 rfl (lv_at hl 0 rfl) ?_
            refine lv_iload_n hx hb dX8_showsTwig_62 rfl (lv_at hl 1 rfl) ?_
            refine lv_iload_n hx hb dX8_showsTwig_63 rfl (lv_at hl 2 rfl) ?_
            obtain ⟨o35, h36, hf⟩ := obO hf
            obtain ⟨v38, g37, hf⟩ := ob hf
            refine r_callV X kw_X8_113 (ci := 8) rfl (c_X8_ofNode l B D cA e24 x0 x1 z6 v38 g37) ⟨Nat.le_of_ble_eq_true rfl, Nat.le_of_ble_eq_true rfl⟩ h36 hR hS hl.1 rfl rfl (Nat.le_of_ble_eq_true rfl) ⟨Nat.le_of_ble_eq_true rfl, Nat.le_of_ble_eq_true rfl⟩ dX8_showsTwig_64 (fun H locs hR hS => ?_)
            refine W.eq (g2 := F0 mt 67 ls [.int v38]) rfl ?_
            refine lv_iload_n hx hb dX8_showsTwig_67 rfl (lv_at hl 2 rfl) ?_
            refine lv_iconst (v := 1) hx hb dX8_showsTwig_68 (by decide) ?_
            refine lv_isub hx hb dX8_showsTwig_69 ?_
            refine lv_icmp_ne (tgt := 79) hx hb dX8_showsTwig_70 (by decide) (fun c39 => ?_) (fun c39 => ?_)
            · rw [if_neg c39] at hf
              obtain rfl := Option.some.inj hf
              exact hJt33 H locs ls hR hS (lv_sub hl [0, 1, 2] rfl)
            · rw [if_pos c39] at hf
              refine lv_aload_n hx hb dX8_showsTwig_73 rfl (lv_at hl 0 rfl) ?_
              refine lv_bipush (v := 40) hx hb dX8_showsTwig_74 (by decide) ?_
              obtain ⟨o40, h41, hf⟩ := obO hf
              obtain ⟨m43, g42, hf⟩ := ob hf
              refine r_callV X kw_X8_264 (ci := 8) rfl (c_X8_shows l B D cA e24 x0 (40 : Int32) m43 g42) ⟨Nat.le_of_ble_eq_true rfl, Nat.le_of_ble_eq_true rfl⟩ h41 hR hS hl.1 rfl rfl (Nat.le_of_ble_eq_true rfl) ⟨Nat.le_of_ble_eq_true rfl, Nat.le_of_ble_eq_true rfl⟩ dX8_showsTwig_76 (fun H locs hR hS => ?_)
              refine W.eq (g2 := F0 mt 79 ls []) rfl ?_
              obtain rfl := Option.some.inj hf
              exact hJt33 H locs ls hR hS (lv_sub hl [0, 1, 2] rfl)
      have hf := hjt13
      clear hjt13
      refine lv_if_le (tgt := 39) hx hb dX8_showsTwig_18 (by decide) (fun c14 => ?_) (fun c14 => ?_)
      · rw [if_pos c14] at hf
        refine lv_iconst (v := 0) hx hb dX8_showsTwig_39 (by decide) ?_
        obtain rfl := Option.some.inj hf
        exact hJt13 H locs ls hR hS (lv_sub hl [0, 1, 2] rfl)
      · rw [if_neg c14] at hf
        refine lv_aload_n hx hb dX8_showsTwig_21 rfl (lv_at hl 0 rfl) ?_
        refine lv_iload_n hx hb dX8_showsTwig_22 rfl (lv_at hl 1 rfl) ?_
        refine lv_iload_n hx hb dX8_showsTwig_23 rfl (lv_at hl 2 rfl) ?_
        refine lv_iconst (v := 1) hx hb dX8_showsTwig_24 (by decide) ?_
        refine lv_isub hx hb dX8_showsTwig_25 ?_
        obtain ⟨o15, h16, hf⟩ := obO hf
        obtain ⟨v18, g17, hf⟩ := ob hf
        refine r_callV X kw_X8_268 (ci := 8) rfl (c_X8_depth l B D cA m7 x0 x1 (z6 - (1 : Int32)) v18 g17) ⟨Nat.le_of_ble_eq_true rfl, Nat.le_of_ble_eq_true rfl⟩ h16 hR hS hl.1 rfl rfl (Nat.le_of_ble_eq_true rfl) ⟨Nat.le_of_ble_eq_true rfl, Nat.le_of_ble_eq_true rfl⟩ dX8_showsTwig_26 (fun H locs hR hS => ?_)
        refine W.eq (g2 := F0 mt 29 ls [.int v18]) rfl ?_
        refine lv_aload_n hx hb dX8_showsTwig_29 rfl (lv_at hl 0 rfl) ?_
        refine lv_iload_n hx hb dX8_showsTwig_30 rfl (lv_at hl 1 rfl) ?_
        refine lv_iload_n hx hb dX8_showsTwig_31 rfl (lv_at hl 2 rfl) ?_
        obtain ⟨o19, h20, hf⟩ := obO hf
        obtain ⟨v22, g21, hf⟩ := ob hf
        refine r_callV X kw_X8_268 (ci := 8) rfl (c_X8_depth l B D cA m7 x0 x1 z6 v22 g21) ⟨Nat.le_of_ble_eq_true rfl, Nat.le_of_ble_eq_true rfl⟩ h20 hR hS hl.1 rfl rfl (Nat.le_of_ble_eq_true rfl) ⟨Nat.le_of_ble_eq_true rfl, Nat.le_of_ble_eq_true rfl⟩ dX8_showsTwig_32 (fun H locs hR hS => ?_)
        refine W.eq (g2 := F0 mt 35 ls [.int v22, .int v18]) rfl ?_
        refine lv_isub hx hb dX8_showsTwig_35 ?_
        refine lv_goto (tgt := 40) hx hb dX8_showsTwig_36 (by decide) ?_
        obtain rfl := Option.some.inj hf
        exact hJt13 H locs ls hR hS (lv_sub hl [0, 1, 2] rfl)
  · intro H locs ls hR hS hl
    refine lv_aload_n hx hb dX8_showsTwig_214 rfl (lv_at hl 0 rfl) ?_
    refine lv_iload_n hx hb dX8_showsTwig_215 rfl (lv_at hl 1 rfl) ?_
    refine lv_aload_n hx hb dX8_showsTwig_216 rfl (lv_at hl 0 rfl) ?_
    obtain ⟨v107, g108, hf⟩ := ob hf
    refine gR_X8_32 X hR g108 dX8_showsTwig_217 ?_
    refine lv_iload_n hx hb dX8_showsTwig_220 rfl (lv_at hl 1 rfl) ?_
    obtain ⟨v109, g110, hf⟩ := ob hf
    refine r_lI X hR g110 dX8_showsTwig_221 ?_
    refine lv_iconst (v := 1) hx hb dX8_showsTwig_222 (by decide) ?_
    refine lv_isub hx hb dX8_showsTwig_223 ?_
    obtain ⟨o111, h112, hf⟩ := obO hf
    obtain ⟨v114, g113, hf⟩ := ob hf
    refine r_callV X kw_X8_268 (ci := 8) rfl (c_X8_depth l B D cA e4 x0 x1 (v109 - (1 : Int32)) v114 g113) ⟨Nat.le_of_ble_eq_true rfl, Nat.le_of_ble_eq_true rfl⟩ h112 hR hS hl.1 rfl rfl (Nat.le_of_ble_eq_true rfl) ⟨Nat.le_of_ble_eq_true rfl, Nat.le_of_ble_eq_true rfl⟩ dX8_showsTwig_224 (fun H locs hR hS => ?_)
    refine W.eq (g2 := F0 mt 227 ls [.int v114]) rfl ?_
    refine lv_istore_n (lv' := [(2, .int v114), (0, .ref (B + x0)), (1, .int x1)]) hx hb dX8_showsTwig_227 rfl hl (by decide) rfl (fun ls hl => ?_)
    obtain ⟨e116, hwe116, hf⟩ := ob hf
    refine whl_rule (P := (fun t115 => ∀ (H : Heap) (locs : List Loc) (ls : Array Slot), Rl B D cA t115.2 H → va_S (fun q => B ≤ q) s.heap H locs → lv_has ls 4 [(0, .ref (B + x0)), (2, .int t115.1)] → W p l e (rmm 3 0 0 68) s mt args below meth c H locs 0 0 (MQ below (mQ B D cA none mZ) args s 0 0 (fun q => B ≤ q)) (F0 mt 228 ls []))) (Qx := (fun e116 => ∀ (H : Heap) (locs : List Loc) (ls : Array Slot), Rl B D cA e116 H → va_S (fun q => B ≤ q) s.heap H locs → lv_has ls 4 [] → W p l e (rmm 3 0 0 68) s mt args below meth c H locs 0 0 (MQ below (mQ B D cA none mZ) args s 0 0 (fun q => B ≤ q)) (F0 mt 245 ls []))) ?_ FU _ e116 hwe116 ?_ H locs ls hR hS (lv_sub hl [1, 0] rfl)
    · clear hwe116 hf
      intro t115 q117 hf hxlq117 hxrq117 H locs ls hR hS hl
      obtain ⟨z118, m119⟩ := t115
      have hf : f_X8_showsTwig_L228 m119 x0 z118 = some q117 := hf
      have hR : Rl B D cA m119 H := hR
      have hl : lv_has ls 4 [(0, .ref (B + x0)), (2, .int z118)] := hl
      unfold f_X8_showsTwig_L228 at hf
      refine lv_iload_n hx hb dX8_showsTwig_228 rfl (lv_at hl 1 rfl) ?_
      refine lv_iconst (v := 1) hx hb dX8_showsTwig_229 (by decide) ?_
      refine lv_icmp_le (tgt := 245) hx hb dX8_showsTwig_230 (by decide) (fun c120 => ?_) (fun c120 => ?_)
      · rw [if_pos c120] at hf
        obtain rfl := Option.some.inj hf
        exact hxrq117 _ rfl H locs ls hR hS (lv_sub hl [] rfl)
      · rw [if_neg c120] at hf
        refine lv_aload_n hx hb dX8_showsTwig_233 rfl (lv_at hl 0 rfl) ?_
        refine lv_bipush (v := 41) hx hb dX8_showsTwig_234 (by decide) ?_
        obtain ⟨o121, h122, hf⟩ := obO hf
        obtain ⟨m124, g123, hf⟩ := ob hf
        refine r_callV X kw_X8_264 (ci := 8) rfl (c_X8_shows l B D cA m119 x0 (41 : Int32) m124 g123) ⟨Nat.le_of_ble_eq_true rfl, Nat.le_of_ble_eq_true rfl⟩ h122 hR hS hl.1 rfl rfl (Nat.le_of_ble_eq_true rfl) ⟨Nat.le_of_ble_eq_true rfl, Nat.le_of_ble_eq_true rfl⟩ dX8_showsTwig_236 (fun H locs hR hS => ?_)
        refine W.eq (g2 := F0 mt 239 ls []) rfl ?_
        refine lv_iinc (v := (z118 + (-1))) (lv' := [(2, .int (z118 + (-1))), (0, .ref (B + x0))]) hx hb dX8_showsTwig_239 hl (k := 1) rfl (congrArg (fun z => z118 + z) (by decide)) (by decide) rfl (fun ls hl => ?_)
        refine lv_goto (tgt := 228) hx hb dX8_showsTwig_242 (by decide) ?_
        obtain rfl := Option.some.inj hf
        exact hxlq117 _ rfl H locs ls hR hS (lv_sub hl [1, 0] rfl)
    · intro H locs ls hR hS hl
      obtain rfl := Option.some.inj hf
      exact r_vret X hr hlocks hR hS dX8_showsTwig_245
/-! ===== TwigMatchesModel.shown(II)I ===== -/
theorem dX8_shown_0 : decode cX8_shown 0 = .ok (.iload_n 1, 1) := by decide +kernel
theorem dX8_shown_1 : decode cX8_shown 1 = .ok (.iconst (-1), 1) := by decide +kernel
theorem dX8_shown_2 : decode cX8_shown 2 = .ok (.iconst 3, 1) := by decide +kernel
theorem dX8_shown_3 : decode cX8_shown 3 = .ok (.invokestatic 90, 3) := by decide +kernel
theorem dX8_shown_6 : decode cX8_shown 6 = .ok (.ifCond .eq 7, 3) := by decide +kernel
theorem dX8_shown_9 : decode cX8_shown 9 = .ok (.iload_n 2, 1) := by decide +kernel
theorem dX8_shown_10 : decode cX8_shown 10 = .ok (.ifCond .ge 8, 3) := by decide +kernel
theorem dX8_shown_13 : decode cX8_shown 13 = .ok (.aload_n 0, 1) := by decide +kernel
theorem dX8_shown_14 : decode cX8_shown 14 = .ok (.invokevirtual 134, 3) := by decide +kernel
theorem dX8_shown_17 : decode cX8_shown 17 = .ok (.ireturn, 1) := by decide +kernel
theorem dX8_shown_18 : decode cX8_shown 18 = .ok (.iload_n 1, 1) := by decide +kernel
theorem dX8_shown_19 : decode cX8_shown 19 = .ok (.iconst (-1), 1) := by decide +kernel
theorem dX8_shown_20 : decode cX8_shown 20 = .ok (.if_icmp .eq 17, 3) := by decide +kernel
theorem dX8_shown_23 : decode cX8_shown 23 = .ok (.aload_n 0, 1) := by decide +kernel
theorem dX8_shown_24 : decode cX8_shown 24 = .ok (.getfield 32, 3) := by decide +kernel
theorem dX8_shown_27 : decode cX8_shown 27 = .ok (.iload_n 1, 1) := by decide +kernel
theorem dX8_shown_28 : decode cX8_shown 28 = .ok (.iaload, 1) := by decide +kernel
theorem dX8_shown_29 : decode cX8_shown 29 = .ok (.ifCond .ne 8, 3) := by decide +kernel
theorem dX8_shown_32 : decode cX8_shown 32 = .ok (.aload_n 0, 1) := by decide +kernel
theorem dX8_shown_33 : decode cX8_shown 33 = .ok (.invokevirtual 119, 3) := by decide +kernel
theorem dX8_shown_36 : decode cX8_shown 36 = .ok (.ireturn, 1) := by decide +kernel
theorem dX8_shown_37 : decode cX8_shown 37 = .ok (.iload_n 1, 1) := by decide +kernel
theorem dX8_shown_38 : decode cX8_shown 38 = .ok (.iconst (-1), 1) := by decide +kernel
theorem dX8_shown_39 : decode cX8_shown 39 = .ok (.if_icmp .ne 10, 3) := by decide +kernel
theorem dX8_shown_42 : decode cX8_shown 42 = .ok (.aload_n 0, 1) := by decide +kernel
theorem dX8_shown_43 : decode cX8_shown 43 = .ok (.invokevirtual 271, 3) := by decide +kernel
theorem dX8_shown_46 : decode cX8_shown 46 = .ok (.goto 8, 3) := by decide +kernel
theorem dX8_shown_49 : decode cX8_shown 49 = .ok (.aload_n 0, 1) := by decide +kernel
theorem dX8_shown_50 : decode cX8_shown 50 = .ok (.iload_n 1, 1) := by decide +kernel
theorem dX8_shown_51 : decode cX8_shown 51 = .ok (.invokevirtual 274, 3) := by decide +kernel
theorem dX8_shown_54 : decode cX8_shown 54 = .ok (.iload_n 2, 1) := by decide +kernel
theorem dX8_shown_55 : decode cX8_shown 55 = .ok (.aload_n 0, 1) := by decide +kernel
theorem dX8_shown_56 : decode cX8_shown 56 = .ok (.getfield 261, 3) := by decide +kernel
theorem dX8_shown_59 : decode cX8_shown 59 = .ok (.if_icmp .ge 12, 3) := by decide +kernel
theorem dX8_shown_62 : decode cX8_shown 62 = .ok (.aload_n 0, 1) := by decide +kernel
theorem dX8_shown_63 : decode cX8_shown 63 = .ok (.getfield 87, 3) := by decide +kernel
theorem dX8_shown_66 : decode cX8_shown 66 = .ok (.iload_n 2, 1) := by decide +kernel
theorem dX8_shown_67 : decode cX8_shown 67 = .ok (.iaload, 1) := by decide +kernel
theorem dX8_shown_68 : decode cX8_shown 68 = .ok (.goto 4, 3) := by decide +kernel
theorem dX8_shown_71 : decode cX8_shown 71 = .ok (.iconst (-1), 1) := by decide +kernel
theorem dX8_shown_72 : decode cX8_shown 72 = .ok (.ireturn, 1) := by decide +kernel
set_option maxHeartbeats 4000000 in
set_option maxRecDepth 100000 in
theorem c_X8_shown (l : Launch) (B : Nat) (D : va_G) (cA : Nat → ClassId) (m : Mm) (x0 : Nat) (x1 : Int32) (x2 : Int32) (rZ : Int32) (mZ : Mm) (hf : f_X8_shown m x0 x1 x2 = some (rZ, mZ)) : Mt l B D cA yX8_shown cX8_shown 3 (some .int) 4 91 0 0 [.ref (B + x0), .int x1, .int x2] m (some (.int rZ)) mZ := by
  refine r_start (by decide) (Nat.le_of_ble_eq_true rfl) ?_
  intro p e s mt args below meth c ls H locs X hr hlocks hnm hR hl hS
  have hx := X.1
  have hb := X.2.1
  have hl : lv_has ls 3 [(0, .ref (B + x0)), (1, .int x1), (2, .int x2)] := hl
  unfold f_X8_shown at hf
  refine lv_iload_n hx hb dX8_shown_0 rfl (lv_at hl 1 rfl) ?_
  refine lv_iconst (v := -1) hx hb dX8_shown_1 (by decide) ?_
  refine lv_iconst (v := 3) hx hb dX8_shown_2 (by decide) ?_
  obtain ⟨v2, g1, hf⟩ := ob hf
  refine r_callS X kw_X8_90 (c_X8_in l B D cA m x1 (-1 : Int32) (3 : Int32) v2 g1) ⟨Nat.le_of_ble_eq_true rfl, Nat.le_of_ble_eq_true rfl⟩ hR hS hl.1 rfl rfl (Nat.le_of_ble_eq_true rfl) ⟨Nat.le_of_ble_eq_true rfl, Nat.le_of_ble_eq_true rfl⟩ dX8_shown_3 (fun H locs hR hS => ?_)
  refine W.eq (g2 := F0 mt 6 ls [.int v2]) rfl ?_
  refine lv_if_eq (tgt := 13) hx hb dX8_shown_6 (by decide) (fun c3 => ?_) (fun c3 => ?_)
  · rw [if_pos c3] at hf
    refine lv_aload_n hx hb dX8_shown_13 rfl (lv_at hl 0 rfl) ?_
    obtain ⟨o4, h5, hf⟩ := obO hf
    obtain ⟨t7, g6, hf⟩ := ob hf
    refine r_callV X kw_X8_134 (ci := 8) rfl (c_X8_bad l B D cA m x0 t7.1 t7.2 g6) ⟨Nat.le_of_ble_eq_true rfl, Nat.le_of_ble_eq_true rfl⟩ h5 hR hS hl.1 rfl rfl (Nat.le_of_ble_eq_true rfl) ⟨Nat.le_of_ble_eq_true rfl, Nat.le_of_ble_eq_true rfl⟩ dX8_shown_14 (fun H locs hR hS => ?_)
    refine W.eq (g2 := F0 mt 17 ls [.int t7.1]) rfl ?_
    obtain ⟨rfl, rfl⟩ := Prod.mk.inj (Option.some.inj hf)
    exact r_iret X hr hlocks hR hS rfl dX8_shown_17
  · rw [if_neg c3] at hf
    refine lv_iload_n hx hb dX8_shown_9 rfl (lv_at hl 2 rfl) ?_
    refine lv_if_ge (tgt := 18) hx hb dX8_shown_10 (by decide) (fun c8 => ?_) (fun c8 => ?_)
    · rw [if_pos c8] at hf
      refine lv_iload_n hx hb dX8_shown_18 rfl (lv_at hl 1 rfl) ?_
      refine lv_iconst (v := -1) hx hb dX8_shown_19 (by decide) ?_
      have hJ37 : ∀  (H : Heap) (locs : List Loc) (ls : Array Slot), f_X8_shown_J37 m x0 x1 x2 = some (rZ, mZ) → Rl B D cA m H → va_S (fun q => B ≤ q) s.heap H locs → lv_has ls 3 [(0, .ref (B + x0)), (1, .int x1), (2, .int x2)] → W p l e (rmm 4 0 0 91) s mt args below meth c H locs 0 0 (MQ below (mQ B D cA (some (.int rZ)) mZ) args s 0 0 (fun q => B ≤ q)) (F0 mt 37 ls []) := by
        intro  H locs ls hf hR hS hl
        unfold f_X8_shown_J37 at hf
        refine lv_iload_n hx hb dX8_shown_37 rfl (lv_at hl 1 rfl) ?_
        refine lv_iconst (v := -1) hx hb dX8_shown_38 (by decide) ?_
        obtain ⟨t9, hjt9, hf⟩ := ob hf
        have hJt9 : ∀ (H : Heap) (locs : List Loc) (ls : Array Slot), Rl B D cA t9 H → va_S (fun q => B ≤ q) s.heap H locs → lv_has ls 3 [(0, .ref (B + x0)), (2, .int x2)] → W p l e (rmm 4 0 0 91) s mt args below meth c H locs 0 0 (MQ below (mQ B D cA (some (.int rZ)) mZ) args s 0 0 (fun q => B ≤ q)) (F0 mt 54 ls []) := by
          intro H locs ls hR hS hl
          refine lv_iload_n hx hb dX8_shown_54 rfl (lv_at hl 1 rfl) ?_
          refine lv_aload_n hx hb dX8_shown_55 rfl (lv_at hl 0 rfl) ?_
          obtain ⟨v19, g20, hf⟩ := ob hf
          refine gI_X8_261 X hR g20 dX8_shown_56 ?_
          refine lv_icmp_ge (tgt := 71) hx hb dX8_shown_59 (by decide) (fun c21 => ?_) (fun c21 => ?_)
          · rw [if_pos c21] at hf
            refine lv_iconst (v := -1) hx hb dX8_shown_71 (by decide) ?_
            obtain ⟨rfl, rfl⟩ := Prod.mk.inj (Option.some.inj hf)
            exact r_iret X hr hlocks hR hS rfl dX8_shown_72
          · rw [if_neg c21] at hf
            refine lv_aload_n hx hb dX8_shown_62 rfl (lv_at hl 0 rfl) ?_
            obtain ⟨v22, g23, hf⟩ := ob hf
            refine gR_X8_87 X hR g23 dX8_shown_63 ?_
            refine lv_iload_n hx hb dX8_shown_66 rfl (lv_at hl 1 rfl) ?_
            obtain ⟨v24, g25, hf⟩ := ob hf
            refine r_lI X hR g25 dX8_shown_67 ?_
            refine lv_goto (tgt := 72) hx hb dX8_shown_68 (by decide) ?_
            obtain ⟨rfl, rfl⟩ := Prod.mk.inj (Option.some.inj hf)
            exact r_iret X hr hlocks hR hS rfl dX8_shown_72
        have hf := hjt9
        clear hjt9
        refine lv_icmp_ne (tgt := 49) hx hb dX8_shown_39 (by decide) (fun c10 => ?_) (fun c10 => ?_)
        · rw [if_neg c10] at hf
          refine lv_aload_n hx hb dX8_shown_49 rfl (lv_at hl 0 rfl) ?_
          refine lv_iload_n hx hb dX8_shown_50 rfl (lv_at hl 1 rfl) ?_
          obtain ⟨o11, h12, hf⟩ := obO hf
          obtain ⟨m14, g13, hf⟩ := ob hf
          refine r_callV X kw_X8_274 (ci := 8) rfl (c_X8_showsTwig l B D cA m x0 x1 m14 g13) ⟨Nat.le_of_ble_eq_true rfl, Nat.le_of_ble_eq_true rfl⟩ h12 hR hS hl.1 rfl rfl (Nat.le_of_ble_eq_true rfl) ⟨Nat.le_of_ble_eq_true rfl, Nat.le_of_ble_eq_true rfl⟩ dX8_shown_51 (fun H locs hR hS => ?_)
          refine W.eq (g2 := F0 mt 54 ls []) rfl ?_
          obtain rfl := Option.some.inj hf
          exact hJt9 H locs ls hR hS (lv_sub hl [0, 2] rfl)
        · rw [if_pos c10] at hf
          refine lv_aload_n hx hb dX8_shown_42 rfl (lv_at hl 0 rfl) ?_
          obtain ⟨o15, h16, hf⟩ := obO hf
          obtain ⟨m18, g17, hf⟩ := ob hf
          refine r_callV X kw_X8_271 (ci := 8) rfl (c_X8_showsTree l B D cA m x0 m18 g17) ⟨Nat.le_of_ble_eq_true rfl, Nat.le_of_ble_eq_true rfl⟩ h16 hR hS hl.1 rfl rfl (Nat.le_of_ble_eq_true rfl) ⟨Nat.le_of_ble_eq_true rfl, Nat.le_of_ble_eq_true rfl⟩ dX8_shown_43 (fun H locs hR hS => ?_)
          refine W.eq (g2 := F0 mt 46 ls []) rfl ?_
          refine lv_goto (tgt := 54) hx hb dX8_shown_46 (by decide) ?_
          obtain rfl := Option.some.inj hf
          exact hJt9 H locs ls hR hS (lv_sub hl [0, 2] rfl)
      refine lv_icmp_eq (tgt := 37) hx hb dX8_shown_20 (by decide) (fun c26 => ?_) (fun c26 => ?_)
      · rw [if_pos c26] at hf
        exact hJ37  H locs ls hf hR hS (lv_sub hl [0, 1, 2] rfl)
      · rw [if_neg c26] at hf
        refine lv_aload_n hx hb dX8_shown_23 rfl (lv_at hl 0 rfl) ?_
        obtain ⟨v27, g28, hf⟩ := ob hf
        refine gR_X8_32 X hR g28 dX8_shown_24 ?_
        refine lv_iload_n hx hb dX8_shown_27 rfl (lv_at hl 1 rfl) ?_
        obtain ⟨v29, g30, hf⟩ := ob hf
        refine r_lI X hR g30 dX8_shown_28 ?_
        refine lv_if_ne (tgt := 37) hx hb dX8_shown_29 (by decide) (fun c31 => ?_) (fun c31 => ?_)
        · rw [if_neg c31] at hf
          exact hJ37  H locs ls hf hR hS (lv_sub hl [0, 1, 2] rfl)
        · rw [if_pos c31] at hf
          refine lv_aload_n hx hb dX8_shown_32 rfl (lv_at hl 0 rfl) ?_
          obtain ⟨o32, h33, hf⟩ := obO hf
          obtain ⟨t35, g34, hf⟩ := ob hf
          refine r_callV X kw_X8_119 (ci := 8) rfl (c_X8_no l B D cA m x0 t35.1 t35.2 g34) ⟨Nat.le_of_ble_eq_true rfl, Nat.le_of_ble_eq_true rfl⟩ h33 hR hS hl.1 rfl rfl (Nat.le_of_ble_eq_true rfl) ⟨Nat.le_of_ble_eq_true rfl, Nat.le_of_ble_eq_true rfl⟩ dX8_shown_33 (fun H locs hR hS => ?_)
          refine W.eq (g2 := F0 mt 36 ls [.int t35.1]) rfl ?_
          obtain ⟨rfl, rfl⟩ := Prod.mk.inj (Option.some.inj hf)
          exact r_iret X hr hlocks hR hS rfl dX8_shown_36
    · rw [if_neg c8] at hf
      refine lv_aload_n hx hb dX8_shown_13 rfl (lv_at hl 0 rfl) ?_
      obtain ⟨o36, h37, hf⟩ := obO hf
      obtain ⟨t39, g38, hf⟩ := ob hf
      refine r_callV X kw_X8_134 (ci := 8) rfl (c_X8_bad l B D cA m x0 t39.1 t39.2 g38) ⟨Nat.le_of_ble_eq_true rfl, Nat.le_of_ble_eq_true rfl⟩ h37 hR hS hl.1 rfl rfl (Nat.le_of_ble_eq_true rfl) ⟨Nat.le_of_ble_eq_true rfl, Nat.le_of_ble_eq_true rfl⟩ dX8_shown_14 (fun H locs hR hS => ?_)
      refine W.eq (g2 := F0 mt 17 ls [.int t39.1]) rfl ?_
      obtain ⟨rfl, rfl⟩ := Prod.mk.inj (Option.some.inj hf)
      exact r_iret X hr hlocks hR hS rfl dX8_shown_17
/-! ===== TwigMatchesModel.toldBy(I)I ===== -/
theorem dX8_toldBy_0 : decode cX8_toldBy 0 = .ok (.iload_n 1, 1) := by decide +kernel
theorem dX8_toldBy_1 : decode cX8_toldBy 1 = .ok (.tableswitch 92 0 5 #[39, 39, 39, 46, 51, 87], 39) := by decide +kernel
theorem dX8_toldBy_40 : decode cX8_toldBy 40 = .ok (.aload_n 0, 1) := by decide +kernel
theorem dX8_toldBy_41 : decode cX8_toldBy 41 = .ok (.getfield 7, 3) := by decide +kernel
theorem dX8_toldBy_44 : decode cX8_toldBy 44 = .ok (.iload_n 1, 1) := by decide +kernel
theorem dX8_toldBy_45 : decode cX8_toldBy 45 = .ok (.iaload, 1) := by decide +kernel
theorem dX8_toldBy_46 : decode cX8_toldBy 46 = .ok (.ireturn, 1) := by decide +kernel
theorem dX8_toldBy_47 : decode cX8_toldBy 47 = .ok (.aload_n 0, 1) := by decide +kernel
theorem dX8_toldBy_48 : decode cX8_toldBy 48 = .ok (.getfield 13, 3) := by decide +kernel
theorem dX8_toldBy_51 : decode cX8_toldBy 51 = .ok (.ireturn, 1) := by decide +kernel
theorem dX8_toldBy_52 : decode cX8_toldBy 52 = .ok (.iconst 0, 1) := by decide +kernel
theorem dX8_toldBy_53 : decode cX8_toldBy 53 = .ok (.istore_n 2, 1) := by decide +kernel
theorem dX8_toldBy_54 : decode cX8_toldBy 54 = .ok (.iconst 0, 1) := by decide +kernel
theorem dX8_toldBy_55 : decode cX8_toldBy 55 = .ok (.istore_n 3, 1) := by decide +kernel
theorem dX8_toldBy_56 : decode cX8_toldBy 56 = .ok (.iload_n 3, 1) := by decide +kernel
theorem dX8_toldBy_57 : decode cX8_toldBy 57 = .ok (.iconst 4, 1) := by decide +kernel
theorem dX8_toldBy_58 : decode cX8_toldBy 58 = .ok (.if_icmp .ge 28, 3) := by decide +kernel
theorem dX8_toldBy_61 : decode cX8_toldBy 61 = .ok (.iload_n 2, 1) := by decide +kernel
theorem dX8_toldBy_62 : decode cX8_toldBy 62 = .ok (.aload_n 0, 1) := by decide +kernel
theorem dX8_toldBy_63 : decode cX8_toldBy 63 = .ok (.getfield 32, 3) := by decide +kernel
theorem dX8_toldBy_66 : decode cX8_toldBy 66 = .ok (.iload_n 3, 1) := by decide +kernel
theorem dX8_toldBy_67 : decode cX8_toldBy 67 = .ok (.iaload, 1) := by decide +kernel
theorem dX8_toldBy_68 : decode cX8_toldBy 68 = .ok (.ifCond .le 9, 3) := by decide +kernel
theorem dX8_toldBy_71 : decode cX8_toldBy 71 = .ok (.iconst 1, 1) := by decide +kernel
theorem dX8_toldBy_72 : decode cX8_toldBy 72 = .ok (.iload_n 3, 1) := by decide +kernel
theorem dX8_toldBy_73 : decode cX8_toldBy 73 = .ok (.ishl, 1) := by decide +kernel
theorem dX8_toldBy_74 : decode cX8_toldBy 74 = .ok (.goto 4, 3) := by decide +kernel
theorem dX8_toldBy_77 : decode cX8_toldBy 77 = .ok (.iconst 0, 1) := by decide +kernel
theorem dX8_toldBy_78 : decode cX8_toldBy 78 = .ok (.ior, 1) := by decide +kernel
theorem dX8_toldBy_79 : decode cX8_toldBy 79 = .ok (.istore_n 2, 1) := by decide +kernel
theorem dX8_toldBy_80 : decode cX8_toldBy 80 = .ok (.iinc 3 1, 3) := by decide +kernel
theorem dX8_toldBy_83 : decode cX8_toldBy 83 = .ok (.goto (-27), 3) := by decide +kernel
theorem dX8_toldBy_86 : decode cX8_toldBy 86 = .ok (.iload_n 2, 1) := by decide +kernel
theorem dX8_toldBy_87 : decode cX8_toldBy 87 = .ok (.ireturn, 1) := by decide +kernel
theorem dX8_toldBy_88 : decode cX8_toldBy 88 = .ok (.aload_n 0, 1) := by decide +kernel
theorem dX8_toldBy_89 : decode cX8_toldBy 89 = .ok (.getfield 220, 3) := by decide +kernel
theorem dX8_toldBy_92 : decode cX8_toldBy 92 = .ok (.ireturn, 1) := by decide +kernel
theorem dX8_toldBy_93 : decode cX8_toldBy 93 = .ok (.aload_n 0, 1) := by decide +kernel
theorem dX8_toldBy_94 : decode cX8_toldBy 94 = .ok (.getfield 116, 3) := by decide +kernel
theorem dX8_toldBy_97 : decode cX8_toldBy 97 = .ok (.ireturn, 1) := by decide +kernel
set_option maxHeartbeats 4000000 in
set_option maxRecDepth 100000 in
theorem c_X8_toldBy (l : Launch) (B : Nat) (D : va_G) (cA : Nat → ClassId) (m : Mm) (x0 : Nat) (x1 : Int32) (rZ : Int32) (hf : f_X8_toldBy m x0 x1 = some rZ) : Mt l B D cA yX8_toldBy cX8_toldBy 4 (some .int) 0 0 0 0 [.ref (B + x0), .int x1] m (some (.int rZ)) m := by
  refine r_start (by decide) (Nat.le_of_ble_eq_true rfl) ?_
  intro p e s mt args below meth c ls H locs X hr hlocks hnm hR hl hS
  have hx := X.1
  have hb := X.2.1
  have hl : lv_has ls 4 [(0, .ref (B + x0)), (1, .int x1)] := hl
  unfold f_X8_toldBy at hf
  refine lv_iload_n hx hb dX8_toldBy_0 rfl (lv_at hl 1 rfl) ?_
  by_cases c1 : x1 = (0 : Int32)
  · rw [if_pos c1] at hf
    refine lv_tableIn (tgt := 40) (off := 39) hx hb dX8_toldBy_1 (by rw [c1]; decide) (by rw [c1]; decide) (by rw [c1]; rfl) (by decide) ?_
    refine lv_aload_n hx hb dX8_toldBy_40 rfl (lv_at hl 0 rfl) ?_
    obtain ⟨v2, g3, hf⟩ := ob hf
    refine gR_X8_7 X hR g3 dX8_toldBy_41 ?_
    refine lv_iload_n hx hb dX8_toldBy_44 rfl (lv_at hl 1 rfl) ?_
    obtain ⟨v4, g5, hf⟩ := ob hf
    refine r_lI X hR g5 dX8_toldBy_45 ?_
    obtain rfl := Option.some.inj hf
    exact r_iret X hr hlocks hR hS rfl dX8_toldBy_46
  rw [if_neg c1] at hf
  by_cases c6 : x1 = (1 : Int32)
  · rw [if_pos c6] at hf
    refine lv_tableIn (tgt := 40) (off := 39) hx hb dX8_toldBy_1 (by rw [c6]; decide) (by rw [c6]; decide) (by rw [c6]; rfl) (by decide) ?_
    refine lv_aload_n hx hb dX8_toldBy_40 rfl (lv_at hl 0 rfl) ?_
    obtain ⟨v7, g8, hf⟩ := ob hf
    refine gR_X8_7 X hR g8 dX8_toldBy_41 ?_
    refine lv_iload_n hx hb dX8_toldBy_44 rfl (lv_at hl 1 rfl) ?_
    obtain ⟨v9, g10, hf⟩ := ob hf
    refine r_lI X hR g10 dX8_toldBy_45 ?_
    obtain rfl := Option.some.inj hf
    exact r_iret X hr hlocks hR hS rfl dX8_toldBy_46
  rw [if_neg c6] at hf
  by_cases c11 : x1 = (2 : Int32)
  · rw [if_pos c11] at hf
    refine lv_tableIn (tgt := 40) (off := 39) hx hb dX8_toldBy_1 (by rw [c11]; decide) (by rw [c11]; decide) (by rw [c11]; rfl) (by decide) ?_
    refine lv_aload_n hx hb dX8_toldBy_40 rfl (lv_at hl 0 rfl) ?_
    obtain ⟨v12, g13, hf⟩ := ob hf
    refine gR_X8_7 X hR g13 dX8_toldBy_41 ?_
    refine lv_iload_n hx hb dX8_toldBy_44 rfl (lv_at hl 1 rfl) ?_
    obtain ⟨v14, g15, hf⟩ := ob hf
    refine r_lI X hR g15 dX8_toldBy_45 ?_
    obtain rfl := Option.some.inj hf
    exact r_iret X hr hlocks hR hS rfl dX8_toldBy_46
  rw [if_neg c11] at hf
  by_cases c16 : x1 = (3 : Int32)
  · rw [if_pos c16] at hf
    refine lv_tableIn (tgt := 47) (off := 46) hx hb dX8_toldBy_1 (by rw [c16]; decide) (by rw [c16]; decide) (by rw [c16]; rfl) (by decide) ?_
    refine lv_aload_n hx hb dX8_toldBy_47 rfl (lv_at hl 0 rfl) ?_
    obtain ⟨v17, g18, hf⟩ := ob hf
    refine gI_X8_13 X hR g18 dX8_toldBy_48 ?_
    obtain rfl := Option.some.inj hf
    exact r_iret X hr hlocks hR hS rfl dX8_toldBy_51
  rw [if_neg c16] at hf
  by_cases c19 : x1 = (4 : Int32)
  · rw [if_pos c19] at hf
    refine lv_tableIn (tgt := 52) (off := 51) hx hb dX8_toldBy_1 (by rw [c19]; decide) (by rw [c19]; decide) (by rw [c19]; rfl) (by decide) ?_
    refine lv_iconst (v := 0) hx hb dX8_toldBy_52 (by decide) ?_
    refine lv_istore_n (lv' := [(2, .int (0 : Int32)), (0, .ref (B + x0)), (1, .int x1)]) hx hb dX8_toldBy_53 rfl hl (by decide) rfl (fun ls hl => ?_)
    refine lv_iconst (v := 0) hx hb dX8_toldBy_54 (by decide) ?_
    refine lv_istore_n (lv' := [(3, .int (0 : Int32)), (2, .int (0 : Int32)), (0, .ref (B + x0)), (1, .int x1)]) hx hb dX8_toldBy_55 rfl hl (by decide) rfl (fun ls hl => ?_)
    obtain ⟨e21, hwe21, hf⟩ := ob hf
    refine whl_rule (P := (fun t20 => ∀ (H : Heap) (locs : List Loc) (ls : Array Slot), Rl B D cA m H → va_S (fun q => B ≤ q) s.heap H locs → lv_has ls 4 [(0, .ref (B + x0)), (2, .int t20.1), (3, .int t20.2)] → W p l e (rmm 0 0 0 0) s mt args below meth c H locs 0 0 (MQ below (mQ B D cA (some (.int rZ)) m) args s 0 0 (fun q => B ≤ q)) (F0 mt 56 ls []))) (Qx := (fun e21 => ∀ (H : Heap) (locs : List Loc) (ls : Array Slot), Rl B D cA m H → va_S (fun q => B ≤ q) s.heap H locs → lv_has ls 4 [(2, .int e21)] → W p l e (rmm 0 0 0 0) s mt args below meth c H locs 0 0 (MQ below (mQ B D cA (some (.int rZ)) m) args s 0 0 (fun q => B ≤ q)) (F0 mt 86 ls []))) ?_ FU _ e21 hwe21 ?_ H locs ls hR hS (lv_sub hl [2, 1, 0] rfl)
    · clear hwe21 hf
      intro t20 q22 hf hxlq22 hxrq22 H locs ls hR hS hl
      obtain ⟨z23, z24⟩ := t20
      have hf : f_X8_toldBy_L56 m x0 z23 z24 = some q22 := hf
      have hR : Rl B D cA m H := hR
      have hl : lv_has ls 4 [(0, .ref (B + x0)), (2, .int z23), (3, .int z24)] := hl
      unfold f_X8_toldBy_L56 at hf
      refine lv_iload_n hx hb dX8_toldBy_56 rfl (lv_at hl 2 rfl) ?_
      refine lv_iconst (v := 4) hx hb dX8_toldBy_57 (by decide) ?_
      refine lv_icmp_ge (tgt := 86) hx hb dX8_toldBy_58 (by decide) (fun c25 => ?_) (fun c25 => ?_)
      · rw [if_pos c25] at hf
        obtain rfl := Option.some.inj hf
        exact hxrq22 _ rfl H locs ls hR hS (lv_sub hl [1] rfl)
      · rw [if_neg c25] at hf
        refine lv_iload_n hx hb dX8_toldBy_61 rfl (lv_at hl 1 rfl) ?_
        refine lv_aload_n hx hb dX8_toldBy_62 rfl (lv_at hl 0 rfl) ?_
        obtain ⟨v26, g27, hf⟩ := ob hf
        refine gR_X8_32 X hR g27 dX8_toldBy_63 ?_
        refine lv_iload_n hx hb dX8_toldBy_66 rfl (lv_at hl 2 rfl) ?_
        obtain ⟨v28, g29, hf⟩ := ob hf
        refine r_lI X hR g29 dX8_toldBy_67 ?_
        refine lv_if_le (tgt := 77) hx hb dX8_toldBy_68 (by decide) (fun c30 => ?_) (fun c30 => ?_)
        · rw [if_pos c30] at hf
          refine lv_iconst (v := 0) hx hb dX8_toldBy_77 (by decide) ?_
          refine lv_ior hx hb dX8_toldBy_78 ?_
          refine lv_istore_n (lv' := [(2, .int (z23 ||| (0 : Int32))), (0, .ref (B + x0)), (3, .int z24)]) hx hb dX8_toldBy_79 rfl hl (by decide) rfl (fun ls hl => ?_)
          refine lv_iinc (v := (z24 + 1)) (lv' := [(3, .int (z24 + 1)), (2, .int (z23 ||| (0 : Int32))), (0, .ref (B + x0))]) hx hb dX8_toldBy_80 hl (k := 2) rfl (congrArg (fun z => z24 + z) (by decide)) (by decide) rfl (fun ls hl => ?_)
          refine lv_goto (tgt := 56) hx hb dX8_toldBy_83 (by decide) ?_
          obtain rfl := Option.some.inj hf
          exact hxlq22 _ rfl H locs ls hR hS (lv_sub hl [2, 1, 0] rfl)
        · rw [if_neg c30] at hf
          refine lv_iconst (v := 1) hx hb dX8_toldBy_71 (by decide) ?_
          refine lv_iload_n hx hb dX8_toldBy_72 rfl (lv_at hl 2 rfl) ?_
          refine lv_ishl hx hb dX8_toldBy_73 ?_
          refine lv_goto (tgt := 78) hx hb dX8_toldBy_74 (by decide) ?_
          refine lv_ior hx hb dX8_toldBy_78 ?_
          refine lv_istore_n (lv' := [(2, .int (z23 ||| ((1 : Int32) <<< (z24 &&& 31)))), (0, .ref (B + x0)), (3, .int z24)]) hx hb dX8_toldBy_79 rfl hl (by decide) rfl (fun ls hl => ?_)
          refine lv_iinc (v := (z24 + 1)) (lv' := [(3, .int (z24 + 1)), (2, .int (z23 ||| ((1 : Int32) <<< (z24 &&& 31)))), (0, .ref (B + x0))]) hx hb dX8_toldBy_80 hl (k := 2) rfl (congrArg (fun z => z24 + z) (by decide)) (by decide) rfl (fun ls hl => ?_)
          refine lv_goto (tgt := 56) hx hb dX8_toldBy_83 (by decide) ?_
          obtain rfl := Option.some.inj hf
          exact hxlq22 _ rfl H locs ls hR hS (lv_sub hl [2, 1, 0] rfl)
    · intro H locs ls hR hS hl
      refine lv_iload_n hx hb dX8_toldBy_86 rfl (lv_at hl 0 rfl) ?_
      obtain rfl := Option.some.inj hf
      exact r_iret X hr hlocks hR hS rfl dX8_toldBy_87
  rw [if_neg c19] at hf
  by_cases c31 : x1 = (5 : Int32)
  · rw [if_pos c31] at hf
    refine lv_tableIn (tgt := 88) (off := 87) hx hb dX8_toldBy_1 (by rw [c31]; decide) (by rw [c31]; decide) (by rw [c31]; rfl) (by decide) ?_
    refine lv_aload_n hx hb dX8_toldBy_88 rfl (lv_at hl 0 rfl) ?_
    obtain ⟨v32, g33, hf⟩ := ob hf
    refine gI_X8_220 X hR g33 dX8_toldBy_89 ?_
    obtain rfl := Option.some.inj hf
    exact r_iret X hr hlocks hR hS rfl dX8_toldBy_92
  rw [if_neg c31] at hf
  refine lv_tableOut (tgt := 93) hx hb dX8_toldBy_1 (by have zc1 := sw_ne (k := 0) c1; have zc6 := sw_ne (k := 1) c6; have zc11 := sw_ne (k := 2) c11; have zc16 := sw_ne (k := 3) c16; have zc19 := sw_ne (k := 4) c19; have zc31 := sw_ne (k := 5) c31; omega) (by decide) ?_
  refine lv_aload_n hx hb dX8_toldBy_93 rfl (lv_at hl 0 rfl) ?_
  obtain ⟨v34, g35, hf⟩ := ob hf
  refine gI_X8_116 X hR g35 dX8_toldBy_94 ?_
  obtain rfl := Option.some.inj hf
  exact r_iret X hr hlocks hR hS rfl dX8_toldBy_97
/-! ===== TwigMatchesModel.told(I)I ===== -/
theorem dX8_told_0 : decode cX8_told 0 = .ok (.iload_n 1, 1) := by decide +kernel
theorem dX8_told_1 : decode cX8_told 1 = .ok (.iconst 0, 1) := by decide +kernel
theorem dX8_told_2 : decode cX8_told 2 = .ok (.bipush 6, 2) := by decide +kernel
theorem dX8_told_4 : decode cX8_told 4 = .ok (.invokestatic 90, 3) := by decide +kernel
theorem dX8_told_7 : decode cX8_told 7 = .ok (.ifCond .eq 11, 3) := by decide +kernel
theorem dX8_told_10 : decode cX8_told 10 = .ok (.aload_n 0, 1) := by decide +kernel
theorem dX8_told_11 : decode cX8_told 11 = .ok (.iload_n 1, 1) := by decide +kernel
theorem dX8_told_12 : decode cX8_told 12 = .ok (.invokevirtual 277, 3) := by decide +kernel
theorem dX8_told_15 : decode cX8_told 15 = .ok (.goto 7, 3) := by decide +kernel
theorem dX8_told_18 : decode cX8_told 18 = .ok (.aload_n 0, 1) := by decide +kernel
theorem dX8_told_19 : decode cX8_told 19 = .ok (.invokevirtual 134, 3) := by decide +kernel
theorem dX8_told_22 : decode cX8_told 22 = .ok (.ireturn, 1) := by decide +kernel
set_option maxHeartbeats 4000000 in
set_option maxRecDepth 100000 in
theorem c_X8_told (l : Launch) (B : Nat) (D : va_G) (cA : Nat → ClassId) (m : Mm) (x0 : Nat) (x1 : Int32) (rZ : Int32) (mZ : Mm) (hf : f_X8_told m x0 x1 = some (rZ, mZ)) : Mt l B D cA yX8_told cX8_told 2 (some .int) 1 23 0 0 [.ref (B + x0), .int x1] m (some (.int rZ)) mZ := by
  refine r_start (by decide) (Nat.le_of_ble_eq_true rfl) ?_
  intro p e s mt args below meth c ls H locs X hr hlocks hnm hR hl hS
  have hx := X.1
  have hb := X.2.1
  have hl : lv_has ls 2 [(0, .ref (B + x0)), (1, .int x1)] := hl
  unfold f_X8_told at hf
  refine lv_iload_n hx hb dX8_told_0 rfl (lv_at hl 1 rfl) ?_
  refine lv_iconst (v := 0) hx hb dX8_told_1 (by decide) ?_
  refine lv_bipush (v := 6) hx hb dX8_told_2 (by decide) ?_
  obtain ⟨v2, g1, hf⟩ := ob hf
  refine r_callS X kw_X8_90 (c_X8_in l B D cA m x1 (0 : Int32) (6 : Int32) v2 g1) ⟨Nat.le_of_ble_eq_true rfl, Nat.le_of_ble_eq_true rfl⟩ hR hS hl.1 rfl rfl (Nat.le_of_ble_eq_true rfl) ⟨Nat.le_of_ble_eq_true rfl, Nat.le_of_ble_eq_true rfl⟩ dX8_told_4 (fun H locs hR hS => ?_)
  refine W.eq (g2 := F0 mt 7 ls [.int v2]) rfl ?_
  refine lv_if_eq (tgt := 18) hx hb dX8_told_7 (by decide) (fun c3 => ?_) (fun c3 => ?_)
  · rw [if_pos c3] at hf
    refine lv_aload_n hx hb dX8_told_18 rfl (lv_at hl 0 rfl) ?_
    obtain ⟨o4, h5, hf⟩ := obO hf
    obtain ⟨t7, g6, hf⟩ := ob hf
    refine r_callV X kw_X8_134 (ci := 8) rfl (c_X8_bad l B D cA m x0 t7.1 t7.2 g6) ⟨Nat.le_of_ble_eq_true rfl, Nat.le_of_ble_eq_true rfl⟩ h5 hR hS hl.1 rfl rfl (Nat.le_of_ble_eq_true rfl) ⟨Nat.le_of_ble_eq_true rfl, Nat.le_of_ble_eq_true rfl⟩ dX8_told_19 (fun H locs hR hS => ?_)
    refine W.eq (g2 := F0 mt 22 ls [.int t7.1]) rfl ?_
    obtain ⟨rfl, rfl⟩ := Prod.mk.inj (Option.some.inj hf)
    exact r_iret X hr hlocks hR hS rfl dX8_told_22
  · rw [if_neg c3] at hf
    refine lv_aload_n hx hb dX8_told_10 rfl (lv_at hl 0 rfl) ?_
    refine lv_iload_n hx hb dX8_told_11 rfl (lv_at hl 1 rfl) ?_
    obtain ⟨o8, h9, hf⟩ := obO hf
    obtain ⟨v11, g10, hf⟩ := ob hf
    refine r_callV X kw_X8_277 (ci := 8) rfl (c_X8_toldBy l B D cA m x0 x1 v11 g10) ⟨Nat.le_of_ble_eq_true rfl, Nat.le_of_ble_eq_true rfl⟩ h9 hR hS hl.1 rfl rfl (Nat.le_of_ble_eq_true rfl) ⟨Nat.le_of_ble_eq_true rfl, Nat.le_of_ble_eq_true rfl⟩ dX8_told_12 (fun H locs hR hS => ?_)
    refine W.eq (g2 := F0 mt 15 ls [.int v11]) rfl ?_
    refine lv_goto (tgt := 22) hx hb dX8_told_15 (by decide) ?_
    obtain ⟨rfl, rfl⟩ := Prod.mk.inj (Option.some.inj hf)
    exact r_iret X hr hlocks hR hS rfl dX8_told_22
/-! ===== TwigMatchesModel.digest()J ===== -/
theorem dX8_digest_0 : decode cX8_digest 0 = .ok (.ldc2_w 280, 3) := by decide +kernel
theorem dX8_digest_3 : decode cX8_digest 3 = .ok (.lstore_n 1, 1) := by decide +kernel
theorem dX8_digest_4 : decode cX8_digest 4 = .ok (.iconst 0, 1) := by decide +kernel
theorem dX8_digest_5 : decode cX8_digest 5 = .ok (.istore_n 3, 1) := by decide +kernel
theorem dX8_digest_6 : decode cX8_digest 6 = .ok (.iload_n 3, 1) := by decide +kernel
theorem dX8_digest_7 : decode cX8_digest 7 = .ok (.bipush 7, 2) := by decide +kernel
theorem dX8_digest_9 : decode cX8_digest 9 = .ok (.if_icmp .ge 22, 3) := by decide +kernel
theorem dX8_digest_12 : decode cX8_digest 12 = .ok (.ldc2_w 282, 3) := by decide +kernel
theorem dX8_digest_15 : decode cX8_digest 15 = .ok (.lload_n 1, 1) := by decide +kernel
theorem dX8_digest_16 : decode cX8_digest 16 = .ok (.lmul, 1) := by decide +kernel
theorem dX8_digest_17 : decode cX8_digest 17 = .ok (.aload_n 0, 1) := by decide +kernel
theorem dX8_digest_18 : decode cX8_digest 18 = .ok (.iload_n 3, 1) := by decide +kernel
theorem dX8_digest_19 : decode cX8_digest 19 = .ok (.invokevirtual 277, 3) := by decide +kernel
theorem dX8_digest_22 : decode cX8_digest 22 = .ok (.i2l, 1) := by decide +kernel
theorem dX8_digest_23 : decode cX8_digest 23 = .ok (.ladd, 1) := by decide +kernel
theorem dX8_digest_24 : decode cX8_digest 24 = .ok (.lstore_n 1, 1) := by decide +kernel
theorem dX8_digest_25 : decode cX8_digest 25 = .ok (.iinc 3 1, 3) := by decide +kernel
theorem dX8_digest_28 : decode cX8_digest 28 = .ok (.goto (-22), 3) := by decide +kernel
theorem dX8_digest_31 : decode cX8_digest 31 = .ok (.ldc2_w 282, 3) := by decide +kernel
theorem dX8_digest_34 : decode cX8_digest 34 = .ok (.lload_n 1, 1) := by decide +kernel
theorem dX8_digest_35 : decode cX8_digest 35 = .ok (.lmul, 1) := by decide +kernel
theorem dX8_digest_36 : decode cX8_digest 36 = .ok (.aload_n 0, 1) := by decide +kernel
theorem dX8_digest_37 : decode cX8_digest 37 = .ok (.getfield 229, 3) := by decide +kernel
theorem dX8_digest_40 : decode cX8_digest 40 = .ok (.i2l, 1) := by decide +kernel
theorem dX8_digest_41 : decode cX8_digest 41 = .ok (.ladd, 1) := by decide +kernel
theorem dX8_digest_42 : decode cX8_digest 42 = .ok (.lstore_n 1, 1) := by decide +kernel
theorem dX8_digest_43 : decode cX8_digest 43 = .ok (.iconst 0, 1) := by decide +kernel
theorem dX8_digest_44 : decode cX8_digest 44 = .ok (.istore_n 3, 1) := by decide +kernel
theorem dX8_digest_45 : decode cX8_digest 45 = .ok (.iload_n 3, 1) := by decide +kernel
theorem dX8_digest_46 : decode cX8_digest 46 = .ok (.aload_n 0, 1) := by decide +kernel
theorem dX8_digest_47 : decode cX8_digest 47 = .ok (.getfield 13, 3) := by decide +kernel
theorem dX8_digest_50 : decode cX8_digest 50 = .ok (.if_icmp .ge 47, 3) := by decide +kernel
theorem dX8_digest_53 : decode cX8_digest 53 = .ok (.ldc2_w 282, 3) := by decide +kernel
theorem dX8_digest_56 : decode cX8_digest 56 = .ok (.ldc2_w 282, 3) := by decide +kernel
theorem dX8_digest_59 : decode cX8_digest 59 = .ok (.ldc2_w 282, 3) := by decide +kernel
theorem dX8_digest_62 : decode cX8_digest 62 = .ok (.lload_n 1, 1) := by decide +kernel
theorem dX8_digest_63 : decode cX8_digest 63 = .ok (.lmul, 1) := by decide +kernel
theorem dX8_digest_64 : decode cX8_digest 64 = .ok (.aload_n 0, 1) := by decide +kernel
theorem dX8_digest_65 : decode cX8_digest 65 = .ok (.getfield 17, 3) := by decide +kernel
theorem dX8_digest_68 : decode cX8_digest 68 = .ok (.iload_n 3, 1) := by decide +kernel
theorem dX8_digest_69 : decode cX8_digest 69 = .ok (.iaload, 1) := by decide +kernel
theorem dX8_digest_70 : decode cX8_digest 70 = .ok (.i2l, 1) := by decide +kernel
theorem dX8_digest_71 : decode cX8_digest 71 = .ok (.ladd, 1) := by decide +kernel
theorem dX8_digest_72 : decode cX8_digest 72 = .ok (.lmul, 1) := by decide +kernel
theorem dX8_digest_73 : decode cX8_digest 73 = .ok (.aload_n 0, 1) := by decide +kernel
theorem dX8_digest_74 : decode cX8_digest 74 = .ok (.getfield 20, 3) := by decide +kernel
theorem dX8_digest_77 : decode cX8_digest 77 = .ok (.iload_n 3, 1) := by decide +kernel
theorem dX8_digest_78 : decode cX8_digest 78 = .ok (.iaload, 1) := by decide +kernel
theorem dX8_digest_79 : decode cX8_digest 79 = .ok (.i2l, 1) := by decide +kernel
theorem dX8_digest_80 : decode cX8_digest 80 = .ok (.ladd, 1) := by decide +kernel
theorem dX8_digest_81 : decode cX8_digest 81 = .ok (.lmul, 1) := by decide +kernel
theorem dX8_digest_82 : decode cX8_digest 82 = .ok (.aload_n 0, 1) := by decide +kernel
theorem dX8_digest_83 : decode cX8_digest 83 = .ok (.getfield 29, 3) := by decide +kernel
theorem dX8_digest_86 : decode cX8_digest 86 = .ok (.iload_n 3, 1) := by decide +kernel
theorem dX8_digest_87 : decode cX8_digest 87 = .ok (.iaload, 1) := by decide +kernel
theorem dX8_digest_88 : decode cX8_digest 88 = .ok (.i2l, 1) := by decide +kernel
theorem dX8_digest_89 : decode cX8_digest 89 = .ok (.ladd, 1) := by decide +kernel
theorem dX8_digest_90 : decode cX8_digest 90 = .ok (.lstore_n 1, 1) := by decide +kernel
theorem dX8_digest_91 : decode cX8_digest 91 = .ok (.iinc 3 1, 3) := by decide +kernel
theorem dX8_digest_94 : decode cX8_digest 94 = .ok (.goto (-49), 3) := by decide +kernel
theorem dX8_digest_97 : decode cX8_digest 97 = .ok (.iconst 0, 1) := by decide +kernel
theorem dX8_digest_98 : decode cX8_digest 98 = .ok (.istore_n 3, 1) := by decide +kernel
theorem dX8_digest_99 : decode cX8_digest 99 = .ok (.iload_n 3, 1) := by decide +kernel
theorem dX8_digest_100 : decode cX8_digest 100 = .ok (.iconst 4, 1) := by decide +kernel
theorem dX8_digest_101 : decode cX8_digest 101 = .ok (.if_icmp .ge 87, 3) := by decide +kernel
theorem dX8_digest_104 : decode cX8_digest 104 = .ok (.aload_n 0, 1) := by decide +kernel
theorem dX8_digest_105 : decode cX8_digest 105 = .ok (.getfield 32, 3) := by decide +kernel
theorem dX8_digest_108 : decode cX8_digest 108 = .ok (.iload_n 3, 1) := by decide +kernel
theorem dX8_digest_109 : decode cX8_digest 109 = .ok (.iaload, 1) := by decide +kernel
theorem dX8_digest_110 : decode cX8_digest 110 = .ok (.ifCond .le 72, 3) := by decide +kernel
theorem dX8_digest_113 : decode cX8_digest 113 = .ok (.ldc2_w 282, 3) := by decide +kernel
theorem dX8_digest_116 : decode cX8_digest 116 = .ok (.lload_n 1, 1) := by decide +kernel
theorem dX8_digest_117 : decode cX8_digest 117 = .ok (.lmul, 1) := by decide +kernel
theorem dX8_digest_118 : decode cX8_digest 118 = .ok (.aload_n 0, 1) := by decide +kernel
theorem dX8_digest_119 : decode cX8_digest 119 = .ok (.getfield 32, 3) := by decide +kernel
theorem dX8_digest_122 : decode cX8_digest 122 = .ok (.iload_n 3, 1) := by decide +kernel
theorem dX8_digest_123 : decode cX8_digest 123 = .ok (.iaload, 1) := by decide +kernel
theorem dX8_digest_124 : decode cX8_digest 124 = .ok (.i2l, 1) := by decide +kernel
theorem dX8_digest_125 : decode cX8_digest 125 = .ok (.ladd, 1) := by decide +kernel
theorem dX8_digest_126 : decode cX8_digest 126 = .ok (.lstore_n 1, 1) := by decide +kernel
theorem dX8_digest_127 : decode cX8_digest 127 = .ok (.iconst 0, 1) := by decide +kernel
theorem dX8_digest_128 : decode cX8_digest 128 = .ok (.istore 4, 2) := by decide +kernel
theorem dX8_digest_130 : decode cX8_digest 130 = .ok (.iload 4, 2) := by decide +kernel
theorem dX8_digest_132 : decode cX8_digest 132 = .ok (.iconst 5, 1) := by decide +kernel
theorem dX8_digest_133 : decode cX8_digest 133 = .ok (.aload_n 0, 1) := by decide +kernel
theorem dX8_digest_134 : decode cX8_digest 134 = .ok (.getfield 32, 3) := by decide +kernel
theorem dX8_digest_137 : decode cX8_digest 137 = .ok (.iload_n 3, 1) := by decide +kernel
theorem dX8_digest_138 : decode cX8_digest 138 = .ok (.iaload, 1) := by decide +kernel
theorem dX8_digest_139 : decode cX8_digest 139 = .ok (.imul, 1) := by decide +kernel
theorem dX8_digest_140 : decode cX8_digest 140 = .ok (.if_icmp .ge 30, 3) := by decide +kernel
theorem dX8_digest_143 : decode cX8_digest 143 = .ok (.ldc2_w 282, 3) := by decide +kernel
theorem dX8_digest_146 : decode cX8_digest 146 = .ok (.lload_n 1, 1) := by decide +kernel
theorem dX8_digest_147 : decode cX8_digest 147 = .ok (.lmul, 1) := by decide +kernel
theorem dX8_digest_148 : decode cX8_digest 148 = .ok (.aload_n 0, 1) := by decide +kernel
theorem dX8_digest_149 : decode cX8_digest 149 = .ok (.iload_n 3, 1) := by decide +kernel
theorem dX8_digest_150 : decode cX8_digest 150 = .ok (.iload 4, 2) := by decide +kernel
theorem dX8_digest_152 : decode cX8_digest 152 = .ok (.iconst 5, 1) := by decide +kernel
theorem dX8_digest_153 : decode cX8_digest 153 = .ok (.idiv, 1) := by decide +kernel
theorem dX8_digest_154 : decode cX8_digest 154 = .ok (.iload 4, 2) := by decide +kernel
theorem dX8_digest_156 : decode cX8_digest 156 = .ok (.iconst 5, 1) := by decide +kernel
theorem dX8_digest_157 : decode cX8_digest 157 = .ok (.irem, 1) := by decide +kernel
theorem dX8_digest_158 : decode cX8_digest 158 = .ok (.invokevirtual 164, 3) := by decide +kernel
theorem dX8_digest_161 : decode cX8_digest 161 = .ok (.i2l, 1) := by decide +kernel
theorem dX8_digest_162 : decode cX8_digest 162 = .ok (.ladd, 1) := by decide +kernel
theorem dX8_digest_163 : decode cX8_digest 163 = .ok (.lstore_n 1, 1) := by decide +kernel
theorem dX8_digest_164 : decode cX8_digest 164 = .ok (.iinc 4 1, 3) := by decide +kernel
theorem dX8_digest_167 : decode cX8_digest 167 = .ok (.goto (-37), 3) := by decide +kernel
theorem dX8_digest_170 : decode cX8_digest 170 = .ok (.ldc2_w 282, 3) := by decide +kernel
theorem dX8_digest_173 : decode cX8_digest 173 = .ok (.lload_n 1, 1) := by decide +kernel
theorem dX8_digest_174 : decode cX8_digest 174 = .ok (.lmul, 1) := by decide +kernel
theorem dX8_digest_175 : decode cX8_digest 175 = .ok (.aload_n 0, 1) := by decide +kernel
theorem dX8_digest_176 : decode cX8_digest 176 = .ok (.iload_n 3, 1) := by decide +kernel
theorem dX8_digest_177 : decode cX8_digest 177 = .ok (.invokevirtual 205, 3) := by decide +kernel
theorem dX8_digest_180 : decode cX8_digest 180 = .ok (.ladd, 1) := by decide +kernel
theorem dX8_digest_181 : decode cX8_digest 181 = .ok (.lstore_n 1, 1) := by decide +kernel
theorem dX8_digest_182 : decode cX8_digest 182 = .ok (.iinc 3 1, 3) := by decide +kernel
theorem dX8_digest_185 : decode cX8_digest 185 = .ok (.goto (-86), 3) := by decide +kernel
theorem dX8_digest_188 : decode cX8_digest 188 = .ok (.lload_n 1, 1) := by decide +kernel
theorem dX8_digest_189 : decode cX8_digest 189 = .ok (.lreturn, 1) := by decide +kernel
set_option maxHeartbeats 4000000 in
set_option maxRecDepth 100000 in
theorem c_X8_digest (l : Launch) (B : Nat) (D : va_G) (cA : Nat → ClassId) (m : Mm) (x0 : Nat) (rZ : Int64) (mZ : Mm) (hf : f_X8_digest m x0 = some (rZ, mZ)) : Mt l B D cA yX8_digest cX8_digest 5 (some .long) 6 143 0 0 [.ref (B + x0)] m (some (.long rZ)) mZ := by
  refine r_start (by decide) (Nat.le_of_ble_eq_true rfl) ?_
  intro p e s mt args below meth c ls H locs X hr hlocks hnm hR hl hS
  have hx := X.1
  have hb := X.2.1
  have hl : lv_has ls 5 [(0, .ref (B + x0))] := hl
  unfold f_X8_digest at hf
  refine lv_ldc2 (v := 1716) hx hb X.2.2.2.1 (X.2.2.2.2.1 _ (tb5 145 rfl rfl)) dX8_digest_0 ?_
  refine lv_lstore_n (lv' := [(1, .long (1716 : Int64)), (0, .ref (B + x0))]) hx hb dX8_digest_3 rfl hl (by decide) rfl (fun ls hl => ?_)
  refine lv_iconst (v := 0) hx hb dX8_digest_4 (by decide) ?_
  refine lv_istore_n (lv' := [(3, .int (0 : Int32)), (1, .long (1716 : Int64)), (0, .ref (B + x0))]) hx hb dX8_digest_5 rfl hl (by decide) rfl (fun ls hl => ?_)
  obtain ⟨e2, hwe2, hf⟩ := ob hf
  refine whl_rule (P := (fun t1 => ∀ (H : Heap) (locs : List Loc) (ls : Array Slot), Rl B D cA m H → va_S (fun q => B ≤ q) s.heap H locs → lv_has ls 5 [(0, .ref (B + x0)), (1, .long t1.1), (3, .int t1.2)] → W p l e (rmm 6 0 0 143) s mt args below meth c H locs 0 0 (MQ below (mQ B D cA (some (.long rZ)) mZ) args s 0 0 (fun q => B ≤ q)) (F0 mt 6 ls []))) (Qx := (fun e2 => ∀ (H : Heap) (locs : List Loc) (ls : Array Slot), Rl B D cA m H → va_S (fun q => B ≤ q) s.heap H locs → lv_has ls 5 [(0, .ref (B + x0)), (1, .long e2)] → W p l e (rmm 6 0 0 143) s mt args below meth c H locs 0 0 (MQ below (mQ B D cA (some (.long rZ)) mZ) args s 0 0 (fun q => B ≤ q)) (F0 mt 31 ls []))) ?_ FU _ e2 hwe2 ?_ H locs ls hR hS (lv_sub hl [2, 1, 0] rfl)
  · clear hwe2 hf
    intro t1 q3 hf hxlq3 hxrq3 H locs ls hR hS hl
    obtain ⟨z4, z5⟩ := t1
    have hf : f_X8_digest_L6 m x0 z4 z5 = some q3 := hf
    have hR : Rl B D cA m H := hR
    have hl : lv_has ls 5 [(0, .ref (B + x0)), (1, .long z4), (3, .int z5)] := hl
    unfold f_X8_digest_L6 at hf
    refine lv_iload_n hx hb dX8_digest_6 rfl (lv_at hl 2 rfl) ?_
    refine lv_bipush (v := 7) hx hb dX8_digest_7 (by decide) ?_
    refine lv_icmp_ge (tgt := 31) hx hb dX8_digest_9 (by decide) (fun c6 => ?_) (fun c6 => ?_)
    · rw [if_pos c6] at hf
      obtain rfl := Option.some.inj hf
      exact hxrq3 _ rfl H locs ls hR hS (lv_sub hl [0, 1] rfl)
    · rw [if_neg c6] at hf
      refine lv_ldc2 (v := 31) hx hb X.2.2.2.1 (X.2.2.2.2.1 _ (tb5 146 rfl rfl)) dX8_digest_12 ?_
      refine lv_lload_n hx hb dX8_digest_15 rfl (lv_at hl 1 rfl) ?_
      refine lv_lmul hx hb dX8_digest_16 ?_
      refine lv_aload_n hx hb dX8_digest_17 rfl (lv_at hl 0 rfl) ?_
      refine lv_iload_n hx hb dX8_digest_18 rfl (lv_at hl 2 rfl) ?_
      obtain ⟨o7, h8, hf⟩ := obO hf
      obtain ⟨v10, g9, hf⟩ := ob hf
      refine r_callV X kw_X8_277 (ci := 8) rfl (c_X8_toldBy l B D cA m x0 z5 v10 g9) ⟨Nat.le_of_ble_eq_true rfl, Nat.le_of_ble_eq_true rfl⟩ h8 hR hS hl.1 rfl rfl (Nat.le_of_ble_eq_true rfl) ⟨Nat.le_of_ble_eq_true rfl, Nat.le_of_ble_eq_true rfl⟩ dX8_digest_19 (fun H locs hR hS => ?_)
      refine W.eq (g2 := F0 mt 22 ls [.int v10, .long ((31 : Int64) * z4)]) rfl ?_
      refine lv_i2l (v := v10.toInt64) hx hb dX8_digest_22 rfl ?_
      refine lv_ladd hx hb dX8_digest_23 ?_
      refine lv_lstore_n (lv' := [(1, .long (((31 : Int64) * z4) + (v10.toInt64))), (0, .ref (B + x0)), (3, .int z5)]) hx hb dX8_digest_24 rfl hl (by decide) rfl (fun ls hl => ?_)
      refine lv_iinc (v := (z5 + 1)) (lv' := [(3, .int (z5 + 1)), (1, .long (((31 : Int64) * z4) + (v10.toInt64))), (0, .ref (B + x0))]) hx hb dX8_digest_25 hl (k := 2) rfl (congrArg (fun z => z5 + z) (by decide)) (by decide) rfl (fun ls hl => ?_)
      refine lv_goto (tgt := 6) hx hb dX8_digest_28 (by decide) ?_
      obtain rfl := Option.some.inj hf
      exact hxlq3 _ rfl H locs ls hR hS (lv_sub hl [2, 1, 0] rfl)
  · intro H locs ls hR hS hl
    refine lv_ldc2 (v := 31) hx hb X.2.2.2.1 (X.2.2.2.2.1 _ (tb5 146 rfl rfl)) dX8_digest_31 ?_
    refine lv_lload_n hx hb dX8_digest_34 rfl (lv_at hl 1 rfl) ?_
    refine lv_lmul hx hb dX8_digest_35 ?_
    refine lv_aload_n hx hb dX8_digest_36 rfl (lv_at hl 0 rfl) ?_
    obtain ⟨v11, g12, hf⟩ := ob hf
    refine gI_X8_229 X hR g12 dX8_digest_37 ?_
    refine lv_i2l (v := v11.toInt64) hx hb dX8_digest_40 rfl ?_
    refine lv_ladd hx hb dX8_digest_41 ?_
    refine lv_lstore_n (lv' := [(1, .long (((31 : Int64) * e2) + (v11.toInt64))), (0, .ref (B + x0))]) hx hb dX8_digest_42 rfl hl (by decide) rfl (fun ls hl => ?_)
    refine lv_iconst (v := 0) hx hb dX8_digest_43 (by decide) ?_
    refine lv_istore_n (lv' := [(3, .int (0 : Int32)), (1, .long (((31 : Int64) * e2) + (v11.toInt64))), (0, .ref (B + x0))]) hx hb dX8_digest_44 rfl hl (by decide) rfl (fun ls hl => ?_)
    obtain ⟨e14, hwe14, hf⟩ := ob hf
    refine whl_rule (P := (fun t13 => ∀ (H : Heap) (locs : List Loc) (ls : Array Slot), Rl B D cA m H → va_S (fun q => B ≤ q) s.heap H locs → lv_has ls 5 [(0, .ref (B + x0)), (1, .long t13.1), (3, .int t13.2)] → W p l e (rmm 6 0 0 143) s mt args below meth c H locs 0 0 (MQ below (mQ B D cA (some (.long rZ)) mZ) args s 0 0 (fun q => B ≤ q)) (F0 mt 45 ls []))) (Qx := (fun e14 => ∀ (H : Heap) (locs : List Loc) (ls : Array Slot), Rl B D cA m H → va_S (fun q => B ≤ q) s.heap H locs → lv_has ls 5 [(0, .ref (B + x0)), (1, .long e14)] → W p l e (rmm 6 0 0 143) s mt args below meth c H locs 0 0 (MQ below (mQ B D cA (some (.long rZ)) mZ) args s 0 0 (fun q => B ≤ q)) (F0 mt 97 ls []))) ?_ FU _ e14 hwe14 ?_ H locs ls hR hS (lv_sub hl [2, 1, 0] rfl)
    · clear hwe14 hf
      intro t13 q15 hf hxlq15 hxrq15 H locs ls hR hS hl
      obtain ⟨z16, z17⟩ := t13
      have hf : f_X8_digest_L45 m x0 z16 z17 = some q15 := hf
      have hR : Rl B D cA m H := hR
      have hl : lv_has ls 5 [(0, .ref (B + x0)), (1, .long z16), (3, .int z17)] := hl
      unfold f_X8_digest_L45 at hf
      refine lv_iload_n hx hb dX8_digest_45 rfl (lv_at hl 2 rfl) ?_
      refine lv_aload_n hx hb dX8_digest_46 rfl (lv_at hl 0 rfl) ?_
      obtain ⟨v18, g19, hf⟩ := ob hf
      refine gI_X8_13 X hR g19 dX8_digest_47 ?_
      refine lv_icmp_ge (tgt := 97) hx hb dX8_digest_50 (by decide) (fun c20 => ?_) (fun c20 => ?_)
      · rw [if_pos c20] at hf
        obtain rfl := Option.some.inj hf
        exact hxrq15 _ rfl H locs ls hR hS (lv_sub hl [0, 1] rfl)
      · rw [if_neg c20] at hf
        refine lv_ldc2 (v := 31) hx hb X.2.2.2.1 (X.2.2.2.2.1 _ (tb5 146 rfl rfl)) dX8_digest_53 ?_
        refine lv_ldc2 (v := 31) hx hb X.2.2.2.1 (X.2.2.2.2.1 _ (tb5 146 rfl rfl)) dX8_digest_56 ?_
        refine lv_ldc2 (v := 31) hx hb X.2.2.2.1 (X.2.2.2.2.1 _ (tb5 146 rfl rfl)) dX8_digest_59 ?_
        refine lv_lload_n hx hb dX8_digest_62 rfl (lv_at hl 1 rfl) ?_
        refine lv_lmul hx hb dX8_digest_63 ?_
        refine lv_aload_n hx hb dX8_digest_64 rfl (lv_at hl 0 rfl) ?_
        obtain ⟨v21, g22, hf⟩ := ob hf
        refine gR_X8_17 X hR g22 dX8_digest_65 ?_
        refine lv_iload_n hx hb dX8_digest_68 rfl (lv_at hl 2 rfl) ?_
        obtain ⟨v23, g24, hf⟩ := ob hf
        refine r_lI X hR g24 dX8_digest_69 ?_
        refine lv_i2l (v := v23.toInt64) hx hb dX8_digest_70 rfl ?_
        refine lv_ladd hx hb dX8_digest_71 ?_
        refine lv_lmul hx hb dX8_digest_72 ?_
        refine lv_aload_n hx hb dX8_digest_73 rfl (lv_at hl 0 rfl) ?_
        obtain ⟨v25, g26, hf⟩ := ob hf
        refine gR_X8_20 X hR g26 dX8_digest_74 ?_
        refine lv_iload_n hx hb dX8_digest_77 rfl (lv_at hl 2 rfl) ?_
        obtain ⟨v27, g28, hf⟩ := ob hf
        refine r_lI X hR g28 dX8_digest_78 ?_
        refine lv_i2l (v := v27.toInt64) hx hb dX8_digest_79 rfl ?_
        refine lv_ladd hx hb dX8_digest_80 ?_
        refine lv_lmul hx hb dX8_digest_81 ?_
        refine lv_aload_n hx hb dX8_digest_82 rfl (lv_at hl 0 rfl) ?_
        obtain ⟨v29, g30, hf⟩ := ob hf
        refine gR_X8_29 X hR g30 dX8_digest_83 ?_
        refine lv_iload_n hx hb dX8_digest_86 rfl (lv_at hl 2 rfl) ?_
        obtain ⟨v31, g32, hf⟩ := ob hf
        refine r_lI X hR g32 dX8_digest_87 ?_
        refine lv_i2l (v := v31.toInt64) hx hb dX8_digest_88 rfl ?_
        refine lv_ladd hx hb dX8_digest_89 ?_
        refine lv_lstore_n (lv' := [(1, .long (((31 : Int64) * (((31 : Int64) * (((31 : Int64) * z16) + (v23.toInt64))) + (v27.toInt64))) + (v31.toInt64))), (0, .ref (B + x0)), (3, .int z17)]) hx hb dX8_digest_90 rfl hl (by decide) rfl (fun ls hl => ?_)
        refine lv_iinc (v := (z17 + 1)) (lv' := [(3, .int (z17 + 1)), (1, .long (((31 : Int64) * (((31 : Int64) * (((31 : Int64) * z16) + (v23.toInt64))) + (v27.toInt64))) + (v31.toInt64))), (0, .ref (B + x0))]) hx hb dX8_digest_91 hl (k := 2) rfl (congrArg (fun z => z17 + z) (by decide)) (by decide) rfl (fun ls hl => ?_)
        refine lv_goto (tgt := 45) hx hb dX8_digest_94 (by decide) ?_
        obtain rfl := Option.some.inj hf
        exact hxlq15 _ rfl H locs ls hR hS (lv_sub hl [2, 1, 0] rfl)
    · intro H locs ls hR hS hl
      refine lv_iconst (v := 0) hx hb dX8_digest_97 (by decide) ?_
      refine lv_istore_n (lv' := [(3, .int (0 : Int32)), (0, .ref (B + x0)), (1, .long e14)]) hx hb dX8_digest_98 rfl hl (by decide) rfl (fun ls hl => ?_)
      obtain ⟨e34, hwe34, hf⟩ := ob hf
      refine whl_rule (P := (fun t33 => ∀ (H : Heap) (locs : List Loc) (ls : Array Slot), Rl B D cA t33.2.2 H → va_S (fun q => B ≤ q) s.heap H locs → lv_has ls 5 [(0, .ref (B + x0)), (1, .long t33.1), (3, .int t33.2.1)] → W p l e (rmm 6 0 0 143) s mt args below meth c H locs 0 0 (MQ below (mQ B D cA (some (.long rZ)) mZ) args s 0 0 (fun q => B ≤ q)) (F0 mt 99 ls []))) (Qx := (fun e34 => ∀ (H : Heap) (locs : List Loc) (ls : Array Slot), Rl B D cA e34.2 H → va_S (fun q => B ≤ q) s.heap H locs → lv_has ls 5 [(1, .long e34.1)] → W p l e (rmm 6 0 0 143) s mt args below meth c H locs 0 0 (MQ below (mQ B D cA (some (.long rZ)) mZ) args s 0 0 (fun q => B ≤ q)) (F0 mt 188 ls []))) ?_ FU _ e34 hwe34 ?_ H locs ls hR hS (lv_sub hl [1, 2, 0] rfl)
      · clear hwe34 hf
        intro t33 q35 hf hxlq35 hxrq35 H locs ls hR hS hl
        obtain ⟨z36, z37, m38⟩ := t33
        have hf : f_X8_digest_L99 m38 x0 z36 z37 = some q35 := hf
        have hR : Rl B D cA m38 H := hR
        have hl : lv_has ls 5 [(0, .ref (B + x0)), (1, .long z36), (3, .int z37)] := hl
        unfold f_X8_digest_L99 at hf
        refine lv_iload_n hx hb dX8_digest_99 rfl (lv_at hl 2 rfl) ?_
        refine lv_iconst (v := 4) hx hb dX8_digest_100 (by decide) ?_
        refine lv_icmp_ge (tgt := 188) hx hb dX8_digest_101 (by decide) (fun c39 => ?_) (fun c39 => ?_)
        · rw [if_pos c39] at hf
          obtain rfl := Option.some.inj hf
          exact hxrq35 _ rfl H locs ls hR hS (lv_sub hl [1] rfl)
        · rw [if_neg c39] at hf
          refine lv_aload_n hx hb dX8_digest_104 rfl (lv_at hl 0 rfl) ?_
          obtain ⟨v40, g41, hf⟩ := ob hf
          refine gR_X8_32 X hR g41 dX8_digest_105 ?_
          refine lv_iload_n hx hb dX8_digest_108 rfl (lv_at hl 2 rfl) ?_
          obtain ⟨v42, g43, hf⟩ := ob hf
          refine r_lI X hR g43 dX8_digest_109 ?_
          refine lv_if_le (tgt := 182) hx hb dX8_digest_110 (by decide) (fun c44 => ?_) (fun c44 => ?_)
          · rw [if_pos c44] at hf
            refine lv_iinc (v := (z37 + 1)) (lv' := [(3, .int (z37 + 1)), (0, .ref (B + x0)), (1, .long z36)]) hx hb dX8_digest_182 hl (k := 2) rfl (congrArg (fun z => z37 + z) (by decide)) (by decide) rfl (fun ls hl => ?_)
            refine lv_goto (tgt := 99) hx hb dX8_digest_185 (by decide) ?_
            obtain rfl := Option.some.inj hf
            exact hxlq35 _ rfl H locs ls hR hS (lv_sub hl [1, 2, 0] rfl)
          · rw [if_neg c44] at hf
            refine lv_ldc2 (v := 31) hx hb X.2.2.2.1 (X.2.2.2.2.1 _ (tb5 146 rfl rfl)) dX8_digest_113 ?_
            refine lv_lload_n hx hb dX8_digest_116 rfl (lv_at hl 1 rfl) ?_
            refine lv_lmul hx hb dX8_digest_117 ?_
            refine lv_aload_n hx hb dX8_digest_118 rfl (lv_at hl 0 rfl) ?_
            obtain ⟨v45, g46, hf⟩ := ob hf
            refine gR_X8_32 X hR g46 dX8_digest_119 ?_
            refine lv_iload_n hx hb dX8_digest_122 rfl (lv_at hl 2 rfl) ?_
            obtain ⟨v47, g48, hf⟩ := ob hf
            refine r_lI X hR g48 dX8_digest_123 ?_
            refine lv_i2l (v := v47.toInt64) hx hb dX8_digest_124 rfl ?_
            refine lv_ladd hx hb dX8_digest_125 ?_
            refine lv_lstore_n (lv' := [(1, .long (((31 : Int64) * z36) + (v47.toInt64))), (0, .ref (B + x0)), (3, .int z37)]) hx hb dX8_digest_126 rfl hl (by decide) rfl (fun ls hl => ?_)
            refine lv_iconst (v := 0) hx hb dX8_digest_127 (by decide) ?_
            refine lv_istore (lv' := [(4, .int (0 : Int32)), (1, .long (((31 : Int64) * z36) + (v47.toInt64))), (0, .ref (B + x0)), (3, .int z37)]) hx hb dX8_digest_128 hl (by decide) rfl (fun ls hl => ?_)
            obtain ⟨e50, hwe50, hf⟩ := ob hf
            refine whl_rule (P := (fun t49 => ∀ (H : Heap) (locs : List Loc) (ls : Array Slot), Rl B D cA m38 H → va_S (fun q => B ≤ q) s.heap H locs → lv_has ls 5 [(0, .ref (B + x0)), (1, .long t49.1), (3, .int z37), (4, .int t49.2)] → W p l e (rmm 6 0 0 143) s mt args below meth c H locs 0 0 (MQ below (mQ B D cA (some (.long rZ)) mZ) args s 0 0 (fun q => B ≤ q)) (F0 mt 130 ls []))) (Qx := (fun e50 => ∀ (H : Heap) (locs : List Loc) (ls : Array Slot), Rl B D cA m38 H → va_S (fun q => B ≤ q) s.heap H locs → lv_has ls 5 [(0, .ref (B + x0)), (1, .long e50), (3, .int z37)] → W p l e (rmm 6 0 0 143) s mt args below meth c H locs 0 0 (MQ below (mQ B D cA (some (.long rZ)) mZ) args s 0 0 (fun q => B ≤ q)) (F0 mt 170 ls []))) ?_ FU _ e50 hwe50 ?_ H locs ls hR hS (lv_sub hl [2, 1, 3, 0] rfl)
            · clear hwe50 hf
              intro t49 q51 hf hxlq51 hxrq51 H locs ls hR hS hl
              obtain ⟨z52, z53⟩ := t49
              have hf : f_X8_digest_L130 m38 x0 z37 z52 z53 = some q51 := hf
              have hR : Rl B D cA m38 H := hR
              have hl : lv_has ls 5 [(0, .ref (B + x0)), (1, .long z52), (3, .int z37), (4, .int z53)] := hl
              unfold f_X8_digest_L130 at hf
              refine lv_iload hx hb dX8_digest_130 (lv_at hl 3 rfl) ?_
              refine lv_iconst (v := 5) hx hb dX8_digest_132 (by decide) ?_
              refine lv_aload_n hx hb dX8_digest_133 rfl (lv_at hl 0 rfl) ?_
              obtain ⟨v54, g55, hf⟩ := ob hf
              refine gR_X8_32 X hR g55 dX8_digest_134 ?_
              refine lv_iload_n hx hb dX8_digest_137 rfl (lv_at hl 2 rfl) ?_
              obtain ⟨v56, g57, hf⟩ := ob hf
              refine r_lI X hR g57 dX8_digest_138 ?_
              refine lv_imul hx hb dX8_digest_139 ?_
              refine lv_icmp_ge (tgt := 170) hx hb dX8_digest_140 (by decide) (fun c58 => ?_) (fun c58 => ?_)
              · rw [if_pos c58] at hf
                obtain rfl := Option.some.inj hf
                exact hxrq51 _ rfl H locs ls hR hS (lv_sub hl [0, 1, 2] rfl)
              · rw [if_neg c58] at hf
                refine lv_ldc2 (v := 31) hx hb X.2.2.2.1 (X.2.2.2.2.1 _ (tb5 146 rfl rfl)) dX8_digest_143 ?_
                refine lv_lload_n hx hb dX8_digest_146 rfl (lv_at hl 1 rfl) ?_
                refine lv_lmul hx hb dX8_digest_147 ?_
                refine lv_aload_n hx hb dX8_digest_148 rfl (lv_at hl 0 rfl) ?_
                refine lv_iload_n hx hb dX8_digest_149 rfl (lv_at hl 2 rfl) ?_
                refine lv_iload hx hb dX8_digest_150 (lv_at hl 3 rfl) ?_
                refine lv_iconst (v := 5) hx hb dX8_digest_152 (by decide) ?_
                refine lv_idiv hx hb dX8_digest_153 (by decide) ?_
                refine lv_iload hx hb dX8_digest_154 (lv_at hl 3 rfl) ?_
                refine lv_iconst (v := 5) hx hb dX8_digest_156 (by decide) ?_
                refine lv_irem hx hb dX8_digest_157 (by decide) ?_
                obtain ⟨o59, h60, hf⟩ := obO hf
                obtain ⟨v62, g61, hf⟩ := ob hf
                refine r_callV X kw_X8_164 (ci := 8) rfl (c_X8_nodeIs l B D cA m38 x0 z37 (z53 / (5 : Int32)) (z53 - z53 / (5 : Int32) * (5 : Int32)) v62 g61) ⟨Nat.le_of_ble_eq_true rfl, Nat.le_of_ble_eq_true rfl⟩ h60 hR hS hl.1 rfl rfl (Nat.le_of_ble_eq_true rfl) ⟨Nat.le_of_ble_eq_true rfl, Nat.le_of_ble_eq_true rfl⟩ dX8_digest_158 (fun H locs hR hS => ?_)
                refine W.eq (g2 := F0 mt 161 ls [.int v62, .long ((31 : Int64) * z52)]) rfl ?_
                refine lv_i2l (v := v62.toInt64) hx hb dX8_digest_161 rfl ?_
                refine lv_ladd hx hb dX8_digest_162 ?_
                refine lv_lstore_n (lv' := [(1, .long (((31 : Int64) * z52) + (v62.toInt64))), (0, .ref (B + x0)), (3, .int z37), (4, .int z53)]) hx hb dX8_digest_163 rfl hl (by decide) rfl (fun ls hl => ?_)
                refine lv_iinc (v := (z53 + 1)) (lv' := [(4, .int (z53 + 1)), (1, .long (((31 : Int64) * z52) + (v62.toInt64))), (0, .ref (B + x0)), (3, .int z37)]) hx hb dX8_digest_164 hl (k := 3) rfl (congrArg (fun z => z53 + z) (by decide)) (by decide) rfl (fun ls hl => ?_)
                refine lv_goto (tgt := 130) hx hb dX8_digest_167 (by decide) ?_
                obtain rfl := Option.some.inj hf
                exact hxlq51 _ rfl H locs ls hR hS (lv_sub hl [2, 1, 3, 0] rfl)
            · intro H locs ls hR hS hl
              refine lv_ldc2 (v := 31) hx hb X.2.2.2.1 (X.2.2.2.2.1 _ (tb5 146 rfl rfl)) dX8_digest_170 ?_
              refine lv_lload_n hx hb dX8_digest_173 rfl (lv_at hl 1 rfl) ?_
              refine lv_lmul hx hb dX8_digest_174 ?_
              refine lv_aload_n hx hb dX8_digest_175 rfl (lv_at hl 0 rfl) ?_
              refine lv_iload_n hx hb dX8_digest_176 rfl (lv_at hl 2 rfl) ?_
              obtain ⟨o63, h64, hf⟩ := obO hf
              obtain ⟨t66, g65, hf⟩ := ob hf
              refine r_callV X kw_X8_205 (ci := 8) rfl (c_X8_matchesOf l B D cA m38 x0 z37 t66.1 t66.2 g65) ⟨Nat.le_of_ble_eq_true rfl, Nat.le_of_ble_eq_true rfl⟩ h64 hR hS hl.1 rfl rfl (Nat.le_of_ble_eq_true rfl) ⟨Nat.le_of_ble_eq_true rfl, Nat.le_of_ble_eq_true rfl⟩ dX8_digest_177 (fun H locs hR hS => ?_)
              refine W.eq (g2 := F0 mt 180 ls [.long t66.1, .long ((31 : Int64) * e50)]) rfl ?_
              refine lv_ladd hx hb dX8_digest_180 ?_
              refine lv_lstore_n (lv' := [(1, .long (((31 : Int64) * e50) + t66.1)), (0, .ref (B + x0)), (3, .int z37)]) hx hb dX8_digest_181 rfl hl (by decide) rfl (fun ls hl => ?_)
              refine lv_iinc (v := (z37 + 1)) (lv' := [(3, .int (z37 + 1)), (1, .long (((31 : Int64) * e50) + t66.1)), (0, .ref (B + x0))]) hx hb dX8_digest_182 hl (k := 2) rfl (congrArg (fun z => z37 + z) (by decide)) (by decide) rfl (fun ls hl => ?_)
              refine lv_goto (tgt := 99) hx hb dX8_digest_185 (by decide) ?_
              obtain rfl := Option.some.inj hf
              exact hxlq35 _ rfl H locs ls hR hS (lv_sub hl [2, 1, 0] rfl)
      · intro H locs ls hR hS hl
        refine lv_lload_n hx hb dX8_digest_188 rfl (lv_at hl 0 rfl) ?_
        obtain ⟨rfl, rfl⟩ := Prod.mk.inj (Option.some.inj hf)
        exact r_lret X hr hlocks hR hS dX8_digest_189
